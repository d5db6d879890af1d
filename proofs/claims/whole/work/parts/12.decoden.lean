theorem mj_dk_X12_rule : mr_X12_rule.all (mj_dk mm_X12_rule) = true := by decide +kernel
theorem mj_dk_X12_itemsOf : mr_X12_itemsOf.all (mj_dk mm_X12_itemsOf) = true := by decide +kernel
theorem mj_dk_X12_state : mr_X12_state.all (mj_dk mm_X12_state) = true := by decide +kernel
theorem mj_dk_X12_item : mr_X12_item.all (mj_dk mm_X12_item) = true := by decide +kernel
theorem mj_dk_X12_noneAsTwo : mr_X12_noneAsTwo.all (mj_dk mm_X12_noneAsTwo) = true := by decide +kernel
theorem mj_dk_X12_move : mr_X12_move.all (mj_dk mm_X12_move) = true := by decide +kernel
theorem mj_dk_X12_action : mr_X12_action.all (mj_dk mm_X12_action) = true := by decide +kernel
theorem mj_dk_X12_look : mr_X12_look.all (mj_dk mm_X12_look) = true := by decide +kernel
theorem mj_dk_X12_after : mr_X12_after.all (mj_dk mm_X12_after) = true := by decide +kernel
theorem mj_dk_X12_relations : mr_X12_relations.all (mj_dk mm_X12_relations) = true := by decide +kernel
theorem mj_dk_X12_conflicts : mr_X12_conflicts.all (mj_dk mm_X12_conflicts) = true := by decide +kernel
theorem mj_dk_X12_conflict : mr_X12_conflict.all (mj_dk mm_X12_conflict) = true := by decide +kernel
theorem mj_dk_X12_witness : mr_X12_witness.all (mj_dk mm_X12_witness) = true := by decide +kernel
theorem mj_dk_X12_shortest : mr_X12_shortest.all (mj_dk mm_X12_shortest) = true := by decide +kernel
theorem mj_dk_X12_offset : mr_X12_offset.all (mj_dk mm_X12_offset) = true := by decide +kernel
theorem mj_dk_X12_packed : mr_X12_packed.all (mj_dk mm_X12_packed) = true := by decide +kernel
theorem mj_dk_X12_fromNow : mr_X12_fromNow.all (mj_dk mm_X12_fromNow) = true := by decide +kernel
theorem mj_dk_X12_fromFirst : mr_X12_fromFirst.all (mj_dk mm_X12_fromFirst) = true := by decide +kernel
theorem mj_dk_X12_comes : mr_X12_comes.all (mj_dk mm_X12_comes) = true := by decide +kernel
theorem mj_dk_X12_isSentence : mr_X12_isSentence.all (mj_dk mm_X12_isSentence) = true := by decide +kernel
theorem mj_dk_X12_power : mr_X12_power.all (mj_dk mm_X12_power) = true := by decide +kernel
theorem mj_dk_X12_gives : mr_X12_gives.all (mj_dk mm_X12_gives) = true := by decide +kernel
theorem mj_dk_X12_sentences : mr_X12_sentences.all (mj_dk mm_X12_sentences) = true := by decide +kernel
theorem mj_dk_X12_read : mr_X12_read.all (mj_dk mm_X12_read) = true := by decide +kernel
theorem mj_dk_X12_whole : mr_X12_whole.all (mj_dk mm_X12_whole) = true := by decide +kernel
theorem mj_dk_X12_expected : mr_X12_expected.all (mj_dk mm_X12_expected) = true := by decide +kernel
theorem mj_dk_X12_stack : mr_X12_stack.all (mj_dk mm_X12_stack) = true := by decide +kernel
theorem mj_dk_X12_layCome : mr_X12_layCome.all (mj_dk mm_X12_layCome) = true := by decide +kernel
theorem mj_dk_X12_game : mr_X12_game.all (mj_dk mm_X12_game) = true := by decide +kernel
theorem mj_dk_X12_notes1 : mr_X12_notes1.all (mj_dk mm_X12_notes1) = true := by decide +kernel
theorem mj_dk_X12_note : mr_X12_note.all (mj_dk mm_X12_note) = true := by decide +kernel
theorem mj_dk_X12_strike : mr_X12_strike.all (mj_dk mm_X12_strike) = true := by decide +kernel
theorem mj_dk_X12_known : mr_X12_known.all (mj_dk mm_X12_known) = true := by decide +kernel
theorem mj_dk_X12_knownBy : mr_X12_knownBy.all (mj_dk mm_X12_knownBy) = true := by decide +kernel
theorem mj_dk_X12_layCounts : mr_X12_layCounts.all (mj_dk mm_X12_layCounts) = true := by decide +kernel
theorem mj_dk_X12_isMissing : mr_X12_isMissing.all (mj_dk mm_X12_isMissing) = true := by decide +kernel
theorem mj_dk_X12_missing : mr_X12_missing.all (mj_dk mm_X12_missing) = true := by decide +kernel
theorem mj_dk_X12_ask : mr_X12_ask.all (mj_dk mm_X12_ask) = true := by decide +kernel
theorem mj_dk_X12_worst : mr_X12_worst.all (mj_dk mm_X12_worst) = true := by decide +kernel
theorem mj_dk_X12_chance : mr_X12_chance.all (mj_dk mm_X12_chance) = true := by decide +kernel
set_option maxRecDepth 20000 in
theorem mj_dk_X12g15 : ∀ M ∈ mj_msX12g15, M.2.2.2.2.2.2.2.all (mj_dk M) = true := List.forall_mem_cons.mpr ⟨mj_dk_X12_rule, List.forall_mem_cons.mpr ⟨mj_dk_X12_itemsOf, List.forall_mem_cons.mpr ⟨mj_dk_X12_state, List.forall_mem_cons.mpr ⟨mj_dk_X12_item, List.forall_mem_cons.mpr ⟨mj_dk_X12_noneAsTwo, List.forall_mem_cons.mpr ⟨mj_dk_X12_move, List.forall_mem_cons.mpr ⟨mj_dk_X12_action, List.forall_mem_cons.mpr ⟨mj_dk_X12_look, List.forall_mem_cons.mpr ⟨mj_dk_X12_after, List.forall_mem_cons.mpr ⟨mj_dk_X12_relations, List.forall_mem_cons.mpr ⟨mj_dk_X12_conflicts, List.forall_mem_cons.mpr ⟨mj_dk_X12_conflict, List.forall_mem_cons.mpr ⟨mj_dk_X12_witness, List.forall_mem_cons.mpr ⟨mj_dk_X12_shortest, List.forall_mem_cons.mpr ⟨mj_dk_X12_offset, List.forall_mem_cons.mpr ⟨mj_dk_X12_packed, List.forall_mem_cons.mpr ⟨mj_dk_X12_fromNow, List.forall_mem_cons.mpr ⟨mj_dk_X12_fromFirst, List.forall_mem_cons.mpr ⟨mj_dk_X12_comes, List.forall_mem_cons.mpr ⟨mj_dk_X12_isSentence, List.forall_mem_cons.mpr ⟨mj_dk_X12_power, List.forall_mem_cons.mpr ⟨mj_dk_X12_gives, List.forall_mem_cons.mpr ⟨mj_dk_X12_sentences, List.forall_mem_cons.mpr ⟨mj_dk_X12_read, List.forall_mem_cons.mpr ⟨mj_dk_X12_whole, List.forall_mem_cons.mpr ⟨mj_dk_X12_expected, List.forall_mem_cons.mpr ⟨mj_dk_X12_stack, List.forall_mem_cons.mpr ⟨mj_dk_X12_layCome, List.forall_mem_cons.mpr ⟨mj_dk_X12_game, List.forall_mem_cons.mpr ⟨mj_dk_X12_notes1, List.forall_mem_cons.mpr ⟨mj_dk_X12_note, List.forall_mem_cons.mpr ⟨mj_dk_X12_strike, List.forall_mem_cons.mpr ⟨mj_dk_X12_known, List.forall_mem_cons.mpr ⟨mj_dk_X12_knownBy, List.forall_mem_cons.mpr ⟨mj_dk_X12_layCounts, List.forall_mem_cons.mpr ⟨mj_dk_X12_isMissing, List.forall_mem_cons.mpr ⟨mj_dk_X12_missing, List.forall_mem_cons.mpr ⟨mj_dk_X12_ask, List.forall_mem_cons.mpr ⟨mj_dk_X12_worst, List.forall_mem_cons.mpr ⟨mj_dk_X12_chance, fun _ h => absurd h List.not_mem_nil⟩⟩⟩⟩⟩⟩⟩⟩⟩⟩⟩⟩⟩⟩⟩⟩⟩⟩⟩⟩⟩⟩⟩⟩⟩⟩⟩⟩⟩⟩⟩⟩⟩⟩⟩⟩⟩⟩⟩⟩
theorem mj_dk_X12_tried : mr_X12_tried.all (mj_dk mm_X12_tried) = true := by decide +kernel
theorem mj_dk_X12_put : mr_X12_put.all (mj_dk mm_X12_put) = true := by decide +kernel
theorem mj_dk_X12_take : mr_X12_take.all (mj_dk mm_X12_take) = true := by decide +kernel
theorem mj_dk_X12_remember : mr_X12_remember.all (mj_dk mm_X12_remember) = true := by decide +kernel
theorem mj_dk_X12_undo : mr_X12_undo.all (mj_dk mm_X12_undo) = true := by decide +kernel
theorem mj_dk_X12_keep : mr_X12_keep.all (mj_dk mm_X12_keep) = true := by decide +kernel
theorem mj_dk_X12_back : mr_X12_back.all (mj_dk mm_X12_back) = true := by decide +kernel
theorem mj_dk_X12_count : mr_X12_count.all (mj_dk mm_X12_count) = true := by decide +kernel
set_option maxRecDepth 20000 in
theorem mj_dk_X12g16 : ∀ M ∈ mj_msX12g16, M.2.2.2.2.2.2.2.all (mj_dk M) = true := List.forall_mem_cons.mpr ⟨mj_dk_X12_tried, List.forall_mem_cons.mpr ⟨mj_dk_X12_put, List.forall_mem_cons.mpr ⟨mj_dk_X12_take, List.forall_mem_cons.mpr ⟨mj_dk_X12_remember, List.forall_mem_cons.mpr ⟨mj_dk_X12_undo, List.forall_mem_cons.mpr ⟨mj_dk_X12_keep, List.forall_mem_cons.mpr ⟨mj_dk_X12_back, List.forall_mem_cons.mpr ⟨mj_dk_X12_count, fun _ h => absurd h List.not_mem_nil⟩⟩⟩⟩⟩⟩⟩⟩
theorem mj_dk_law0 : ((mr_L_law.drop 0).take 50).all (mj_dk mm_L_law) = true := by decide +kernel
theorem mj_dk_law1 : ((mr_L_law.drop 50).take 50).all (mj_dk mm_L_law) = true := by decide +kernel
theorem mj_dk_law2 : ((mr_L_law.drop 100).take 50).all (mj_dk mm_L_law) = true := by decide +kernel
theorem mj_dk_law3 : ((mr_L_law.drop 150).take 50).all (mj_dk mm_L_law) = true := by decide +kernel
theorem mj_dk_law4 : ((mr_L_law.drop 200).take 50).all (mj_dk mm_L_law) = true := by decide +kernel
theorem mj_dk_law5 : ((mr_L_law.drop 250).take 50).all (mj_dk mm_L_law) = true := by decide +kernel
theorem mj_dk_law6 : ((mr_L_law.drop 300).take 50).all (mj_dk mm_L_law) = true := by decide +kernel
theorem mj_dk_law7 : ((mr_L_law.drop 350).take 50).all (mj_dk mm_L_law) = true := by decide +kernel
theorem mj_dk_law8 : ((mr_L_law.drop 400).take 50).all (mj_dk mm_L_law) = true := by decide +kernel
theorem mj_dk_law9 : ((mr_L_law.drop 450).take 50).all (mj_dk mm_L_law) = true := by decide +kernel
theorem mj_dk_law10 : ((mr_L_law.drop 500).take 50).all (mj_dk mm_L_law) = true := by decide +kernel
theorem mj_dk_law11 : ((mr_L_law.drop 550).take 50).all (mj_dk mm_L_law) = true := by decide +kernel
theorem mj_dk_law12 : ((mr_L_law.drop 600).take 50).all (mj_dk mm_L_law) = true := by decide +kernel
theorem mj_dk_law13 : ((mr_L_law.drop 650).take 50).all (mj_dk mm_L_law) = true := by decide +kernel
theorem mj_dk_law14 : ((mr_L_law.drop 700).take 50).all (mj_dk mm_L_law) = true := by decide +kernel
theorem mj_dk_law15 : ((mr_L_law.drop 750).take 50).all (mj_dk mm_L_law) = true := by decide +kernel
theorem mj_dk_law16 : ((mr_L_law.drop 800).take 50).all (mj_dk mm_L_law) = true := by decide +kernel
