def jAll (N : Nat) (Rel : BX → Mo → Prop) : Prop :=
  (∀ (a1 : Int32) (X : BX) (M : Mo), Rel X M → ∃ (r : Int32) (X1 : BX) (M1 : Mo), f_X7_write a1 X = some (r, X1) ∧ f_X8_write a1 M = some (r, M1) ∧ Rel X1 M1) ∧
  (∀ (X : BX) (M : Mo), Rel X M → ∃ (r : Int32) (X1 : BX) (M1 : Mo), f_X7_erase X = some (r, X1) ∧ f_X8_erase M = some (r, M1) ∧ Rel X1 M1) ∧
  (∀ (X : BX) (M : Mo), Rel X M → ∃ (r : Int32) (X1 : BX) (M1 : Mo), f_X7_fault N X = some (r, X1) ∧ f_X8_fault N M = some (r, M1) ∧ Rel X1 M1) ∧
  (∀ (X : BX) (M : Mo), Rel X M → ∃ (r : Int32) (X1 : BX) (M1 : Mo), f_X7_house N X = some (r, X1) ∧ f_X8_house N M = some (r, M1) ∧ Rel X1 M1) ∧
  (∀ (a1 a2 : Int32) (X : BX) (M : Mo), Rel X M → ∃ (r : Int32) (M1 : Mo), f_X7_mouse N a1 a2 X = some r ∧ f_X8_mouse N a1 a2 M = some (r, M1) ∧ Rel X M1) ∧
  (∀ (a1 a2 : Int32) (X : BX) (M : Mo), Rel X M → ∃ (r : Int32) (M1 : Mo), f_X7_step a1 a2 X = some r ∧ f_X8_step a1 a2 M = some (r, M1) ∧ Rel X M1) ∧
  (∀ (a1 a2 : Int32) (X : BX) (M : Mo), Rel X M → ∃ (r : Int32) (M1 : Mo), f_X7_rat a1 a2 X = some r ∧ f_X8_rat a1 a2 M = some (r, M1) ∧ Rel X M1) ∧
  (∀ (a1 a2 : Int32) (X : BX) (M : Mo), Rel X M → ∃ (r : Int32) (M1 : Mo), f_X7_as a1 a2 X = some r ∧ f_X8_as a1 a2 M = some (r, M1) ∧ Rel X M1) ∧
  (∀ (a1 a2 : Int32) (X : BX) (M : Mo), Rel X M → ∃ (r : Int32) (M1 : Mo), f_X7_danger a1 a2 X = some r ∧ f_X8_danger a1 a2 M = some (r, M1) ∧ Rel X M1) ∧
  (∀ (a1 a2 : Int32) (X : BX) (M : Mo), Rel X M → ∃ (r : Int32) (X1 : BX) (M1 : Mo), f_X7_put N a1 a2 X = some (r, X1) ∧ f_X8_put N a1 a2 M = some (r, M1) ∧ Rel X1 M1) ∧
  (∀ (X : BX) (M : Mo), Rel X M → ∃ (r : Int32) (X1 : BX) (M1 : Mo), f_X7_clear N X = some (r, X1) ∧ f_X8_clear N M = some (r, M1) ∧ Rel X1 M1) ∧
  (∀ (a1 : Int32) (X : BX) (M : Mo), Rel X M → ∃ (r : Int32) (X1 : BX) (M1 : Mo), f_X7_night N a1 X = some (r, X1) ∧ f_X8_night N a1 M = some (r, M1) ∧ Rel X1 M1) ∧
  (∀ (X : BX) (M : Mo), Rel X M → ∃ (r : Int32) (X1 : BX) (M1 : Mo), f_X7_undo N X = some (r, X1) ∧ f_X8_undo N M = some (r, M1) ∧ Rel X1 M1) ∧
  (∀ (a1 : Int32) (X : BX) (M : Mo), Rel X M → ∃ (r : Int32) (X1 : BX) (M1 : Mo), f_X7_keep N a1 X = some (r, X1) ∧ f_X8_keep N a1 M = some (r, M1) ∧ Rel X1 M1) ∧
  (∀ (a1 : Int32) (X : BX) (M : Mo), Rel X M → ∃ (r : Int32) (X1 : BX) (M1 : Mo), f_X7_back N a1 X = some (r, X1) ∧ f_X8_back N a1 M = some (r, M1) ∧ Rel X1 M1) ∧
  (∀ (a1 : Int32) (X : BX) (M : Mo), Rel X M → ∃ (r : Int32) (M1 : Mo), f_X7_through N a1 X = some r ∧ f_X8_through N a1 M = some (r, M1) ∧ Rel X M1) ∧
  (∀ (a1 a2 : Int32) (X : BX) (M : Mo), Rel X M → ∃ (r : Int32) (M1 : Mo), f_X7_fails N a1 a2 X = some r ∧ f_X8_fails_ N a1 a2 M = some (r, M1) ∧ Rel X M1) ∧
  (∀ (a1 : Int32) (X : BX) (M : Mo), Rel X M → ∃ (r : Int32) (M1 : Mo), f_X7_loss N a1 X = some r ∧ f_X8_loss N a1 M = some (r, M1) ∧ Rel X M1) ∧
  (∀ (a1 : Int32) (X : BX) (M : Mo), Rel X M → ∃ (r : Int32) (X1 : BX) (M1 : Mo), f_X7_best N a1 X = some (r, X1) ∧ f_X8_best N a1 M = some (r, M1) ∧ Rel X1 M1) ∧
  (∀ (a1 : Int32) (X : BX) (M : Mo), Rel X M → ∃ (r : Int32) (X1 : BX) (M1 : Mo), f_X7_bestOf N a1 X = some (r, X1) ∧ f_X8_bestOf N a1 M = some (r, M1) ∧ Rel X1 M1) ∧
  (∀ (a1 a2 : Int32) (X : BX) (M : Mo), Rel X M → ∃ (r : Int32) (M1 : Mo), f_X7_drawn N a1 a2 X = some r ∧ f_X8_drawn N a1 a2 M = some (r, M1) ∧ Rel X M1) ∧
  (∀ (a1 a2 : Int32) (X : BX) (M : Mo), Rel X M → ∃ (r : Int32) (M1 : Mo), f_X7_alone N a1 a2 X = some r ∧ f_X8_alone N a1 a2 M = some (r, M1) ∧ Rel X M1) ∧
  (∀ (a1 a2 : Int32) (X : BX) (M : Mo), Rel X M → ∃ (r : Int32) (M1 : Mo), f_X7_dread N a1 a2 X = some r ∧ f_X8_dread N a1 a2 M = some (r, M1) ∧ Rel X M1) ∧
  (∀ (a1 : Int32) (X : BX) (M : Mo), Rel X M → ∃ (r : Int32) (M1 : Mo), f_X7_hires N a1 X = some r ∧ f_X8_hires N a1 M = some (r, M1) ∧ Rel X M1) ∧
  (∀ (a1 a2 : Int32) (X : BX) (M : Mo), Rel X M → ∃ (r : Int32) (X1 : BX) (M1 : Mo), f_X7_rests N a1 a2 X = some (r, X1) ∧ f_X8_rests N a1 a2 M = some (r, M1) ∧ Rel X1 M1) ∧
  (∀ (X : BX) (M : Mo), Rel X M → ∃ (r : Int32) (M1 : Mo), f_X7_fund N X = some r ∧ f_X8_fund N M = some (r, M1) ∧ Rel X M1) ∧
  (∀ (a1 : Int32) (X : BX) (M : Mo), Rel X M → ∃ (r : Int32) (M1 : Mo), f_X7_rats N a1 X = some r ∧ f_X8_rats N a1 M = some (r, M1) ∧ Rel X M1) ∧
  (∀ (a1 a2 a3 a4 a5 : Int32) (X : BX) (M : Mo), Rel X M → ∃ (r : Int64) (M1 : Mo), f_X7_shoe N a1 a2 a3 a4 a5 X = some r ∧ f_X8_shoe N a1 a2 a3 a4 a5 M = some (r, M1) ∧ Rel X M1) ∧
  (∀ (a1 a2 a3 a4 a5 : Int32) (X : BX) (M : Mo), Rel X M → ∃ (r : Int64) (M1 : Mo), f_X7_callOff N a1 a2 a3 a4 a5 X = some r ∧ f_X8_callOff N a1 a2 a3 a4 a5 M = some (r, M1) ∧ Rel X M1) ∧
  (∀ (a1 a2 : Int32) (X : BX) (M : Mo), Rel X M → ∃ (r : Int32) (X1 : BX) (M1 : Mo), f_X7_seen a1 a2 X = some (r, X1) ∧ f_X8_seen a1 a2 M = some (r, M1) ∧ Rel X1 M1) ∧
  (∀ (X : BX) (M : Mo), Rel X M → ∃ (r : Int32) (X1 : BX) (M1 : Mo), f_X7_forget X = some (r, X1) ∧ f_X8_forget M = some (r, M1) ∧ Rel X1 M1) ∧
  (∀ (a1 : Int32) (X : BX) (M : Mo), Rel X M → ∃ (r : Int32) (M1 : Mo), f_X7_teams N a1 X = some r ∧ f_X8_teams N a1 M = some (r, M1) ∧ Rel X M1) ∧
  (∀ (a1 : Int32) (X : BX) (M : Mo), Rel X M → ∃ (r : Int32) (M1 : Mo), f_X7_teamOf N a1 X = some r ∧ f_X8_teamOf N a1 M = some (r, M1) ∧ Rel X M1) ∧
  (∀ (a1 : Int32) (X : BX) (M : Mo), Rel X M → ∃ (r : Int32) (M1 : Mo), f_X7_count N a1 X = some r ∧ f_X8_count N a1 M = some (r, M1) ∧ Rel X M1)
