/-! TEXT: the reference's reader of TOKENS -/
def kt_key (v : Int) : Int := if v = 687183296 then 0 else if v = 378998784 then 1 else if v = 626398208 then 2 else if v = 605498368 then 3 else -1
def kt_wl : List Int := [116, 111, 107, 101, 110, 32, 107, 105, 110, 100, 32, 114, 117, 108, 101, 32, 114, 97, 110, 107, 32]
def kt_Wd (σ : jg_M) : Prop := ∀ i : Nat, i < 21 → σ.1 (92 + 2) (i : Int) = kt_wl.getD i 0
section KTC
variable {w : Nat} {σ τ : jg_M} {a b n p q k m F : Nat} {B : Nat → Int} {P : Int → Bool} {KV : jg_M → Prop} {KI : Int → jg_M → Prop} {x : Int}
theorem kt_Wd_fr {W : Nat → Int → Prop} (h : kt_Wd σ) (hf : jF W σ τ) (h2 : ∀ i, ¬ W (92 + 2) i) : kt_Wd τ := fun i hi => (hf.1 _ _ (h2 _)).trans (h i hi)
end KTC
