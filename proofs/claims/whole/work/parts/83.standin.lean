-- WHAT THE NUMBERS GIVE (a stand-in: to be proved)
theorem ag_court {X : SX} {M : SM} (h : LInv X M) : ∃ r X2 M2, xo_court 1000 X = some (r, X2) ∧ mo_court 1000 M = some (r, M2) ∧ LInv X2 M2 := sorry
theorem ag_days (a1 : Int32) (a2 : Int32) {X : SX} {M : SM} (h : LInv X M) : ∃ r X2 M2, xo_days 1000 a1 a2 X = some (r, X2) ∧ mo_days 1000 a1 a2 M = some (r, M2) ∧ LInv X2 M2 := sorry
theorem ag_drift (a1 : Int32) {X : SX} {M : SM} (h : LInv X M) : ∃ r X2 M2, xo_drift 1000 a1 X = some (r, X2) ∧ mo_drift 1000 a1 M = some (r, M2) ∧ LInv X2 M2 := sorry
theorem ag_ahead (a1 : Int32) (a2 : Int32) (a3 : Int32) {X : SX} {M : SM} (h : LInv X M) : ∃ r X2 M2, xo_ahead 1000 a1 a2 a3 X = some (r, X2) ∧ mo_ahead 1000 a1 a2 a3 M = some (r, M2) ∧ LInv X2 M2 := sorry
theorem ag_rankAhead (a1 : Int32) (a2 : Int32) (a3 : Int32) {X : SX} {M : SM} (h : LInv X M) : ∃ r X2 M2, xo_rankAhead 1000 a1 a2 a3 X = some (r, X2) ∧ mo_rankAhead 1000 a1 a2 a3 M = some (r, M2) ∧ LInv X2 M2 := sorry
theorem ag_leaks (a1 : Int32) (a2 : Int32) {X : SX} {M : SM} (h : LInv X M) : ∃ r X2 M2, xo_leaks 1000 a1 a2 X = some (r, X2) ∧ mo_leaks 1000 a1 a2 M = some (r, M2) ∧ LInv X2 M2 := sorry
theorem ag_out (a1 : Int32) (a2 : Int32) {X : SX} {M : SM} (h : LInv X M) : ∃ r X2 M2, xo_out 1000 a1 a2 X = some (r, X2) ∧ mo_out 1000 a1 a2 M = some (r, M2) ∧ LInv X2 M2 := sorry
theorem ag_cool (a1 : Int32) {X : SX} {M : SM} (h : LInv X M) : ∃ r X2 M2, xo_cool 1000 a1 X = some (r, X2) ∧ mo_cool 1000 a1 M = some (r, M2) ∧ LInv X2 M2 := sorry
theorem ag_thick (a1 : Int32) (a2 : Int32) {X : SX} {M : SM} (h : LInv X M) : ∃ r X2 M2, xo_thick 1000 a1 a2 X = some (r, X2) ∧ mo_thick 1000 a1 a2 M = some (r, M2) ∧ LInv X2 M2 := sorry
theorem ag_renew (a1 : Int32) (a2 : Int32) (a3 : Int32) (a4 : Int32) (a5 : Int32) {X : SX} {M : SM} (h : LInv X M) : ∃ r X2 M2, xo_renew 1000 a1 a2 a3 a4 a5 X = some (r, X2) ∧ mo_renew 1000 a1 a2 a3 a4 a5 M = some (r, M2) ∧ LInv X2 M2 := sorry
theorem ag_table (a1 : Int32) (a2 : Int32) (a3 : Int32) {X : SX} {M : SM} (h : LInv X M) : ∃ r X2 M2, xo_table 1000 a1 a2 a3 X = some (r, X2) ∧ mo_table 1000 a1 a2 a3 M = some (r, M2) ∧ LInv X2 M2 := sorry
theorem ag_rivals (a1 : Int32) {X : SX} {M : SM} (h : LInv X M) : ∃ r X2 M2, xo_rivals 1000 a1 X = some (r, X2) ∧ mo_rivals 1000 a1 M = some (r, M2) ∧ LInv X2 M2 := sorry
theorem ag_from (a1 : Int32) (a2 : Int32) (a3 : Int32) {X : SX} {M : SM} (h : LInv X M) : ∃ r X2 M2, xo_from 1000 a1 a2 a3 X = some (r, X2) ∧ mo_from 1000 a1 a2 a3 M = some (r, M2) ∧ LInv X2 M2 := sorry
theorem ag_image {X : SX} {M : SM} (h : LInv X M) : ∃ r X2 M2, xo_image 1000 X = some (r, X2) ∧ mo_image 1000 M = some (r, M2) ∧ LInv X2 M2 := sorry
theorem ag_restore {X : SX} {M : SM} (h : LInv X M) : ∃ r X2 M2, xo_restore 1000 X = some (r, X2) ∧ mo_restore 1000 M = some (r, M2) ∧ LInv X2 M2 := sorry
theorem ag_told (a1 : Int32) (a2 : Int32) (a3 : Int32) (a4 : Int32) (a5 : Int32) {X : SX} {M : SM} (h : LInv X M) : ∃ r X2 M2, xo_told 1000 a1 a2 a3 a4 a5 X = some (r, X2) ∧ mo_told 1000 a1 a2 a3 a4 a5 M = some (r, M2) ∧ LInv X2 M2 := sorry
theorem ag_film (a1 : Int32) (a2 : Int32) (a3 : Int32) (a4 : Int32) (a5 : Int32) (a6 : Int32) {X : SX} {M : SM} (h : LInv X M) : ∃ r X2 M2, xo_film 1000 a1 a2 a3 a4 a5 a6 X = some (r, X2) ∧ mo_film 1000 a1 a2 a3 a4 a5 a6 M = some (r, M2) ∧ LInv X2 M2 := sorry
theorem ag_sheet (a1 : Int32) (a2 : Int32) (a3 : Int32) {X : SX} {M : SM} (h : LInv X M) : ∃ r X2 M2, xo_sheet 1000 a1 a2 a3 X = some (r, X2) ∧ mo_sheet 1000 a1 a2 a3 M = some (r, M2) ∧ LInv X2 M2 := sorry
theorem ag_drop (a1 : Int32) {X : SX} {M : SM} (h : LInv X M) : ∃ r X2 M2, xo_drop 1000 a1 X = some (r, X2) ∧ mo_drop 1000 a1 M = some (r, M2) ∧ LInv X2 M2 := sorry
theorem ag_item (a1 : Int32) (a2 : Int32) (a3 : Int32) (a4 : Int64) {X : SX} {M : SM} (h : LInv X M) : ∃ r X2 M2, xo_item 1000 a1 a2 a3 a4 X = some (r, X2) ∧ mo_item 1000 a1 a2 a3 a4 M = some (r, M2) ∧ LInv X2 M2 := sorry
theorem ag_copy (a1 : Int32) (a2 : Int32) (a3 : Int32) (a4 : Int32) (a5 : Int32) {X : SX} {M : SM} (h : LInv X M) : ∃ r X2 M2, xo_copy 1000 a1 a2 a3 a4 a5 X = some (r, X2) ∧ mo_copy 1000 a1 a2 a3 a4 a5 M = some (r, M2) ∧ LInv X2 M2 := sorry
theorem li_start : LInv X0v M0v := sorry
