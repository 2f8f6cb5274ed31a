noncomputable section
def f_X7_oftener (σ0 : Zst) (p0 : Int32) : Option Int32 :=
  (f_X7_takenByFirst σ0 p0).bind fun t1 => (f_X7_takenBySecond σ0 p0).bind fun t2 => some (t1 - t2)
def f_X5_has (σ0 : Zst) (p0 : Int32) : Int32 :=
  (if p0 < (0 : Int32) then (0 : Int32) else (if (σ0.1 0) ≤ p0 then (0 : Int32) else (1 : Int32)))
theorem bo_X5_has (σ0 : Zst) (p0 : Int32) : f_X5_has σ0 p0 = 0 ∨ f_X5_has σ0 p0 = 1 := by
  unfold f_X5_has
  repeat' split
  all_goals first | exact Or.inl rfl | exact Or.inr rfl
def f_X5_at (σ0 : Zst) (p0 : Int32) : Option Int64 :=
  (if (f_X5_has σ0 p0) = (0 : Int32) then some (0 : Int64) else gIx p0 8 (some ((σ0.2.2.1 0) (Int32.toNatClampNeg p0))))
end
/-- the two sides of sort agree -/
def lp_sort (Rel : Zst → Zst → Prop) : Prop := ∀ σc σm : Zst, Rel σc σm → ∀ p0 p1 p2 : Int32, ∃ (oc : (Zst × Int32)) (om : (Zst × Int32)), f_X11_sort σc p0 p1 p2 = some oc ∧ f_X12_sort σm p0 p1 p2 = some om ∧ oc.2 = om.2 ∧ Rel oc.1 om.1
/-- the two sides of goes agree -/
def lp_goes (Rel : Zst → Zst → Prop) : Prop := ∀ σc σm : Zst, Rel σc σm → ∀ p0 p1 p2 p3 : Int32, ∃ (oc : (Zst × Int32)) (om : (Zst × Int32)), f_X11_goes σc p0 p1 p2 p3 = some oc ∧ f_X12_goes σm p0 p1 p2 p3 = some om ∧ oc.2 = om.2 ∧ Rel oc.1 om.1
/-- the two sides of street agree -/
def lp_street (Rel : Zst → Zst → Prop) : Prop := ∀ σc σm : Zst, Rel σc σm → ∀ p0 : Int32, ∃ (oc : (Zst × Int32)) (om : (Zst × Int32)), f_X11_street σc p0 = some oc ∧ f_X12_street σm p0 = some om ∧ oc.2 = om.2 ∧ Rel oc.1 om.1
/-- the two sides of lack agree -/
def lp_lack (Rel : Zst → Zst → Prop) : Prop := ∀ σc σm : Zst, Rel σc σm → ∀ p0 p1 p2 : Int32, (p2 = 0 ∨ p2 = 1) → ∃ (oc : (Zst × Int32)) (om : (Zst × Int32)), f_X11_lack σc p0 p1 p2 = some oc ∧ f_X12_lack σm p0 p1 p2 = some om ∧ oc.2 = om.2 ∧ Rel oc.1 om.1
/-- the two sides of put agree -/
def lp_put (Rel : Zst → Zst → Prop) : Prop := ∀ σc σm : Zst, Rel σc σm → ∀ p0 p1 p2 p3 : Int32, ∃ (oc : (Zst × Int32)) (om : (Zst × Int32)), f_X11_put σc p0 p1 p2 p3 = some oc ∧ f_X12_put σm p0 p1 p2 p3 = some om ∧ oc.2 = om.2 ∧ Rel oc.1 om.1
/-- the two sides of get agree -/
def lp_get (Rel : Zst → Zst → Prop) : Prop := ∀ σc σm : Zst, Rel σc σm → ∀ p0 p1 p2 : Int32, ∃ (oc : Int32) (om : (Zst × Int32)), f_X11_get σc p0 p1 p2 = some oc ∧ f_X12_get σm p0 p1 p2 = some om ∧ oc = om.2 ∧ Rel σc om.1
/-- the two sides of sheet agree -/
def lp_sheet (Rel : Zst → Zst → Prop) : Prop := ∀ σc σm : Zst, Rel σc σm → ∀ p0 p1 p2 p3 p4 : Int32, ∃ (oc : (Zst × Int32)) (om : (Zst × Int32)), f_X11_sheet σc p0 p1 p2 p3 p4 = some oc ∧ f_X12_sheet σm p0 p1 p2 p3 p4 = some om ∧ oc.2 = om.2 ∧ Rel oc.1 om.1
/-- the two sides of sign agree -/
def lp_sign (Rel : Zst → Zst → Prop) : Prop := ∀ σc σm : Zst, Rel σc σm → ∀ p0 : Int32, ∃ (oc : (Zst × Int32)) (om : (Zst × Int32)), f_X11_sign σc p0 = some oc ∧ f_X12_sign σm p0 = some om ∧ oc.2 = om.2 ∧ Rel oc.1 om.1
/-- the two sides of end agree -/
def lp_end (Rel : Zst → Zst → Prop) : Prop := ∀ σc σm : Zst, Rel σc σm → ∀ p0 : Int32, ∃ (oc : (Zst × Int32)) (om : (Zst × Int32)), f_X11_end σc p0 = some oc ∧ f_X12_end σm p0 = some om ∧ oc.2 = om.2 ∧ Rel oc.1 om.1
/-- the two sides of law agree -/
def lp_law (Rel : Zst → Zst → Prop) : Prop := ∀ σc σm : Zst, Rel σc σm → ∀ p0 : Int32, ∃ (oc : (Zst × Int32)) (om : (Zst × Int32)), f_X11_law σc p0 = some oc ∧ f_X12_law σm p0 = some om ∧ oc.2 = om.2 ∧ Rel oc.1 om.1
/-- the two sides of live agree -/
def lp_live (Rel : Zst → Zst → Prop) : Prop := ∀ σc σm : Zst, Rel σc σm → ∀ p0 p1 : Int32, ∃ (oc : (Zst × Int32)) (om : (Zst × Int32)), f_X11_live σc p0 p1 = some oc ∧ f_X12_live σm p0 p1 = some om ∧ oc.2 = om.2 ∧ Rel oc.1 om.1
/-- the two sides of seed agree -/
def lp_seed (Rel : Zst → Zst → Prop) : Prop := ∀ σc σm : Zst, Rel σc σm → ∀ p0 : Int32, ∃ (oc : (Zst × Int32)) (om : (Zst × Int32)), f_X11_seed σc p0 = some oc ∧ f_X12_seed σm p0 = some om ∧ oc.2 = om.2 ∧ Rel oc.1 om.1
/-- the two sides of sum agree -/
def lp_sum (Rel : Zst → Zst → Prop) : Prop := ∀ σc σm : Zst, Rel σc σm → ∀ p0 p1 p2 p3 : Int32, ∃ (oc : (Zst × Int32)) (om : (Zst × Int32)), f_X11_sum σc p0 p1 p2 p3 = some oc ∧ f_X12_sum σm p0 p1 p2 p3 = some om ∧ oc.2 = om.2 ∧ Rel oc.1 om.1
/-- the two sides of bounds agree -/
def lp_bounds (Rel : Zst → Zst → Prop) : Prop := ∀ σc σm : Zst, Rel σc σm → ∀ p0 p1 p2 : Int32, ∃ (oc : (Zst × Int32)) (om : (Zst × Int32)), f_X11_bounds σc p0 p1 p2 = some oc ∧ f_X12_bounds σm p0 p1 p2 = some om ∧ oc.2 = om.2 ∧ Rel oc.1 om.1
/-- the two sides of line agree -/
def lp_line (Rel : Zst → Zst → Prop) : Prop := ∀ σc σm : Zst, Rel σc σm → ∀ p0 p1 p2 : Int32, ∃ (oc : (Zst × Int32)) (om : (Zst × Int32)), f_X11_line σc p0 p1 p2 = some oc ∧ f_X12_line σm p0 p1 p2 = some om ∧ oc.2 = om.2 ∧ Rel oc.1 om.1
/-- the two sides of off agree -/
def lp_off (Rel : Zst → Zst → Prop) : Prop := ∀ σc σm : Zst, Rel σc σm → ∀ p0 p1 : Int32, ∃ (oc : (Zst × Int32)) (om : (Zst × Int32)), f_X11_off σc p0 p1 = some oc ∧ f_X12_off σm p0 p1 = some om ∧ oc.2 = om.2 ∧ Rel oc.1 om.1
/-- the two sides of nearest agree -/
def lp_nearest (Rel : Zst → Zst → Prop) : Prop := ∀ σc σm : Zst, Rel σc σm → ∀ p0 : Int32, ∃ (oc : (Zst × Int32)) (om : (Zst × Int32)), f_X11_nearest σc p0 = some oc ∧ f_X12_nearest σm p0 = some om ∧ oc.2 = om.2 ∧ Rel oc.1 om.1
/-- the two sides of worst agree -/
def lp_worst (Rel : Zst → Zst → Prop) : Prop := ∀ σc σm : Zst, Rel σc σm → ∀ p0 p1 : Int32, ∃ (oc : (Zst × Int32)) (om : (Zst × Int32)), f_X11_worst σc p0 p1 = some oc ∧ f_X12_worst σm p0 p1 = some om ∧ oc.2 = om.2 ∧ Rel oc.1 om.1
/-- the two sides of right agree -/
def lp_right (Rel : Zst → Zst → Prop) : Prop := ∀ σc σm : Zst, Rel σc σm → ∀ p0 : Int32, ∃ (oc : (Zst × Int32)) (om : (Zst × Int32)), f_X11_right σc p0 = some oc ∧ f_X12_right σm p0 = some om ∧ oc.2 = om.2 ∧ Rel oc.1 om.1
/-- the two sides of three agree -/
def lp_three (Rel : Zst → Zst → Prop) : Prop := ∀ σc σm : Zst, Rel σc σm → ∀ p0 p1 : Int32, ∃ (oc : (Zst × Int32)) (om : (Zst × Int32)), f_X11_three σc p0 p1 = some oc ∧ f_X12_three σm p0 p1 = some om ∧ oc.2 = om.2 ∧ Rel oc.1 om.1
/-- the two sides of slope agree -/
def lp_slope (Rel : Zst → Zst → Prop) : Prop := ∀ σc σm : Zst, Rel σc σm → ∀ p0 p1 : Int32, ∃ (oc : (Zst × Int32)) (om : (Zst × Int32)), f_X11_slope σc p0 p1 = some oc ∧ f_X12_slope σm p0 p1 = some om ∧ oc.2 = om.2 ∧ Rel oc.1 om.1
/-- the two sides of others agree -/
def lp_others (Rel : Zst → Zst → Prop) : Prop := ∀ σc σm : Zst, Rel σc σm → ∀ p0 p1 : Int32, ∃ (oc : (Zst × Int32)) (om : (Zst × Int32)), f_X11_others σc p0 p1 = some oc ∧ f_X12_others σm p0 p1 = some om ∧ oc.2 = om.2 ∧ Rel oc.1 om.1
/-- the two sides of worth agree -/
def lp_worth (Rel : Zst → Zst → Prop) : Prop := ∀ σc σm : Zst, Rel σc σm → ∀ p0 p1 : Int32, ∃ (oc : (Zst × Int32)) (om : (Zst × Int32)), f_X11_worth σc p0 p1 = some oc ∧ f_X12_worth σm p0 p1 = some om ∧ oc.2 = om.2 ∧ Rel oc.1 om.1
/-- the two sides of waste agree -/
def lp_waste (Rel : Zst → Zst → Prop) : Prop := ∀ σc σm : Zst, Rel σc σm → ∀ p0 : Int32, ∃ (oc : (Zst × Int32)) (om : (Zst × Int32)), f_X11_waste σc p0 = some oc ∧ f_X12_waste σm p0 = some om ∧ oc.2 = om.2 ∧ Rel oc.1 om.1
/-- the two sides of story agree -/
def lp_story (Rel : Zst → Zst → Prop) : Prop := ∀ σc σm : Zst, Rel σc σm → ∃ (oc : (Zst × Int32)) (om : (Zst × Int32)), f_X11_story σc = some oc ∧ f_X12_story σm = some om ∧ oc.2 = om.2 ∧ Rel oc.1 om.1
/-- the two sides of holds agree -/
def lp_holds (Rel : Zst → Zst → Prop) : Prop := ∀ σc σm : Zst, Rel σc σm → ∀ p0 : Int32, ∃ (oc : (Zst × Int32)) (om : (Zst × Int32)), f_X11_holds σc p0 = some oc ∧ f_X12_holds σm p0 = some om ∧ oc.2 = om.2 ∧ Rel oc.1 om.1
/-- the two sides of parts agree -/
def lp_parts (Rel : Zst → Zst → Prop) : Prop := ∀ σc σm : Zst, Rel σc σm → ∃ (oc : (Zst × Int32)) (om : (Zst × Int32)), f_X11_parts σc = some oc ∧ f_X12_parts σm = some om ∧ oc.2 = om.2 ∧ Rel oc.1 om.1
/-- the two sides of twice agree -/
def lp_twice (Rel : Zst → Zst → Prop) : Prop := ∀ σc σm : Zst, Rel σc σm → ∀ p0 p1 p2 : Int32, ∃ (oc : (Zst × Int32)) (om : (Zst × Int32)), f_X11_twice σc p0 p1 p2 = some oc ∧ f_X12_twice σm p0 p1 p2 = some om ∧ oc.2 = om.2 ∧ Rel oc.1 om.1
/-- the two sides of alike agree -/
def lp_alike (Rel : Zst → Zst → Prop) : Prop := ∀ σc σm : Zst, Rel σc σm → ∃ (oc : (Zst × Int32)) (om : (Zst × Int32)), f_X11_alike σc = some oc ∧ f_X12_alike σm = some om ∧ oc.2 = om.2 ∧ Rel oc.1 om.1
/-- the two sides of mixed agree -/
def lp_mixed (Rel : Zst → Zst → Prop) : Prop := ∀ σc σm : Zst, Rel σc σm → ∃ (oc : (Zst × Int32)) (om : (Zst × Int32)), f_X11_mixed σc = some oc ∧ f_X12_mixed σm = some om ∧ oc.2 = om.2 ∧ Rel oc.1 om.1
/-- the two sides of truly agree -/
def lp_truly (Rel : Zst → Zst → Prop) : Prop := ∀ σc σm : Zst, Rel σc σm → ∀ p0 p1 : Int32, ∃ (oc : (Zst × Int32)) (om : (Zst × Int32)), f_X11_truly σc p0 p1 = some oc ∧ f_X12_truly σm p0 p1 = some om ∧ oc.2 = om.2 ∧ Rel oc.1 om.1
/-- the two sides of moved agree -/
def lp_moved (Rel : Zst → Zst → Prop) : Prop := ∀ σc σm : Zst, Rel σc σm → ∀ p0 p1 : Int32, ∃ (oc : (Zst × Int32)) (om : (Zst × Int32)), f_X11_moved σc p0 p1 = some oc ∧ f_X12_moved σm p0 p1 = some om ∧ oc.2 = om.2 ∧ Rel oc.1 om.1
/-- the two sides of feasts agree -/
def lp_feasts (Rel : Zst → Zst → Prop) : Prop := ∀ σc σm : Zst, Rel σc σm → ∀ p0 : Int32, ∃ (oc : (Zst × Int32)) (om : (Zst × Int32)), f_X11_feasts σc p0 = some oc ∧ f_X12_feasts σm p0 = some om ∧ oc.2 = om.2 ∧ Rel oc.1 om.1
/-- the two sides of need agree -/
def lp_need (Rel : Zst → Zst → Prop) : Prop := ∀ σc σm : Zst, Rel σc σm → ∀ p0 p1 p2 p3 : Int32, ∃ (oc : (Zst × Int32)) (om : (Zst × Int32)), f_X11_need σc p0 p1 p2 p3 = some oc ∧ f_X12_need σm p0 p1 p2 p3 = some om ∧ oc.2 = om.2 ∧ Rel oc.1 om.1
/-- the two sides of weeks agree -/
def lp_weeks (Rel : Zst → Zst → Prop) : Prop := ∀ σc σm : Zst, Rel σc σm → ∀ p0 p1 p2 p3 : Int32, ∃ (oc : (Zst × Int32)) (om : (Zst × Int32)), f_X11_weeks σc p0 p1 p2 p3 = some oc ∧ f_X12_weeks σm p0 p1 p2 p3 = some om ∧ oc.2 = om.2 ∧ Rel oc.1 om.1
/-- the two sides of paper agree -/
def lp_paper (Rel : Zst → Zst → Prop) : Prop := ∀ σc σm : Zst, Rel σc σm → ∀ p0 p1 p2 : Int32, ∃ (oc : (Zst × Int32)) (om : (Zst × Int32)), f_X11_paper σc p0 p1 p2 = some oc ∧ f_X12_paper σm p0 p1 p2 = some om ∧ oc.2 = om.2 ∧ Rel oc.1 om.1
/-- the two sides of year agree -/
def lp_year (Rel : Zst → Zst → Prop) : Prop := ∀ σc σm : Zst, Rel σc σm → ∀ p0 : Int32, ∃ (oc : (Zst × Int32)) (om : (Zst × Int32)), f_X11_year σc p0 = some oc ∧ f_X12_year σm p0 = some om ∧ oc.2 = om.2 ∧ Rel oc.1 om.1
/-- the two sides of stray agree -/
def lp_stray (Rel : Zst → Zst → Prop) : Prop := ∀ σc σm : Zst, Rel σc σm → ∃ (oc : (Zst × Int32)) (om : (Zst × Int32)), f_X11_stray σc = some oc ∧ f_X12_stray σm = some om ∧ oc.2 = om.2 ∧ Rel oc.1 om.1
/-- the two sides of was agree -/
def lp_was (Rel : Zst → Zst → Prop) : Prop := ∀ σc σm : Zst, Rel σc σm → ∀ p0 p1 p2 p3 : Int32, ∃ (oc : (Zst × Int32)) (om : (Zst × Int32)), f_X11_was σc p0 p1 p2 p3 = some oc ∧ f_X12_was σm p0 p1 p2 p3 = some om ∧ oc.2 = om.2 ∧ Rel oc.1 om.1
/-- the two sides of told agree -/
def lp_told (Rel : Zst → Zst → Prop) : Prop := ∀ σc σm : Zst, Rel σc σm → ∀ p0 p1 : Int32, ∃ (oc : (Zst × Int32)) (om : (Zst × Int32)), f_X11_told σc p0 p1 = some oc ∧ f_X12_told σm p0 p1 = some om ∧ oc.2 = om.2 ∧ Rel oc.1 om.1
/-- the two sides of does agree -/
def lp_does (Rel : Zst → Zst → Prop) : Prop := ∀ σc σm : Zst, Rel σc σm → ∀ p0 p1 p2 : Int32, ∃ (oc : (Zst × Int32)) (om : (Zst × Int32)), f_X11_does σc p0 p1 p2 = some oc ∧ f_X12_does σm p0 p1 p2 = some om ∧ oc.2 = om.2 ∧ Rel oc.1 om.1
/-- the two sides of keep agree -/
def lp_keep (Rel : Zst → Zst → Prop) : Prop := ∀ σc σm : Zst, Rel σc σm → ∀ p0 : Int32, ∃ (oc : (Zst × Int32)) (om : (Zst × Int32)), f_X11_keep σc p0 = some oc ∧ f_X12_keep σm p0 = some om ∧ oc.2 = om.2 ∧ Rel oc.1 om.1
/-- the two sides of again agree -/
def lp_again (Rel : Zst → Zst → Prop) : Prop := ∀ σc σm : Zst, Rel σc σm → ∀ p0 : Int32, ∃ (oc : (Zst × Int32)) (om : (Zst × Int32)), f_X11_again σc p0 = some oc ∧ f_X12_again σm p0 = some om ∧ oc.2 = om.2 ∧ Rel oc.1 om.1
/-- the two sides of count agree -/
def lp_count (Rel : Zst → Zst → Prop) : Prop := ∀ σc σm : Zst, Rel σc σm → ∀ p0 : Int32, ∃ (oc : Int32) (om : (Zst × Int32)), f_X11_count σc p0 = some oc ∧ f_X12_count σm p0 = some om ∧ oc = om.2 ∧ Rel σc om.1
def lp_leans (Rel : Zst → Zst → Prop) : Prop := ∀ σc σm : Zst, Rel σc σm → ∀ p0 : Int32, ∃ om : Zst × Int32, f_X12_leans σm p0 = some om ∧ Rel σc om.1 ∧ ((f_X10_hasSort σc p0 = 0 ∧ f_X12_thrown om.1 = 1) ∨ (f_X10_hasSort σc p0 = 1 ∧ f_X12_thrown om.1 = 0 ∧ f_X7_oftener σc p0 = some om.2))
def lp_row (Rel : Zst → Zst → Prop) : Prop := ∀ σc σm : Zst, Rel σc σm → ∀ p0 : Int32, ∃ om : Zst × Int64, f_X12_row σm p0 = some om ∧ Rel σc om.1 ∧ ((f_X5_has σc p0 = 0 ∧ f_X12_thrown om.1 = 1) ∨ (f_X5_has σc p0 = 1 ∧ f_X12_thrown om.1 = 0 ∧ f_X5_at σc p0 = some om.2))
def lp_All (Rel : Zst → Zst → Prop) : Prop := lp_again Rel ∧ lp_alike Rel ∧ lp_bounds Rel ∧ lp_count Rel ∧ lp_does Rel ∧ lp_end Rel ∧ lp_feasts Rel ∧ lp_get Rel ∧ lp_goes Rel ∧ lp_holds Rel ∧ lp_keep Rel ∧ lp_lack Rel ∧ lp_law Rel ∧ lp_line Rel ∧ lp_live Rel ∧ lp_mixed Rel ∧ lp_moved Rel ∧ lp_nearest Rel ∧ lp_need Rel ∧ lp_off Rel ∧ lp_others Rel ∧ lp_paper Rel ∧ lp_parts Rel ∧ lp_put Rel ∧ lp_right Rel ∧ lp_seed Rel ∧ lp_sheet Rel ∧ lp_sign Rel ∧ lp_slope Rel ∧ lp_sort Rel ∧ lp_story Rel ∧ lp_stray Rel ∧ lp_street Rel ∧ lp_sum Rel ∧ lp_three Rel ∧ lp_told Rel ∧ lp_truly Rel ∧ lp_twice Rel ∧ lp_was Rel ∧ lp_waste Rel ∧ lp_weeks Rel ∧ lp_worst Rel ∧ lp_worth Rel ∧ lp_year Rel ∧ lp_leans Rel ∧ lp_row Rel
