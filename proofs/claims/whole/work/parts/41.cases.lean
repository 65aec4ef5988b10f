def Ob_put (Inv : Nat → az_S × Nat → az_M → Prop) (G : Nat) : Prop := ∀ (m : Nat) (Z : az_S × Nat) (M : az_M) (a1 : Int32) (a2 : Int32), m < 512 → Inv m Z M → ∃ (r : Int32) (M1 M2 : az_M), f_X11_put a1 a2 M = some (r, M1) ∧ f_X12_put a1 a2 M1 = some (r, M2) ∧ Inv (m + 1) Z M2
def Ob_bullet (Inv : Nat → az_S × Nat → az_M → Prop) (G : Nat) : Prop := ∀ (m : Nat) (Z : az_S × Nat) (M : az_M) (a1 : Int32), m < 512 → Inv m Z M → ∃ (r : Int32) (M2 : az_M), f_X11_bullet a1 M = some r ∧ f_X12_bullet a1 M = some (r, M2) ∧ Inv (m + 1) Z M2
def Ob_place (Inv : Nat → az_S × Nat → az_M → Prop) (G : Nat) : Prop := ∀ (m : Nat) (Z : az_S × Nat) (M : az_M) (a1 : Int32) (a2 : Int32) (a3 : Int32), m < 512 → Inv m Z M → ∃ (r : Int32) (M1 M2 : az_M), f_X11_place a1 a2 a3 M = some (r, M1) ∧ f_X12_place a1 a2 a3 M1 = some (r, M2) ∧ Inv (m + 1) Z M2
def Ob_at (Inv : Nat → az_S × Nat → az_M → Prop) (G : Nat) : Prop := ∀ (m : Nat) (Z : az_S × Nat) (M : az_M) (a1 : Int32) (a2 : Int32), m < 512 → Inv m Z M → ∃ (r : Int32) (M1 M2 : az_M), f_X11_at Z G a1 a2 M = some (r, M1) ∧ f_X12_at G a1 a2 M1 = some (r, M2) ∧ Inv (m + 1) Z M2
def Ob_person (Inv : Nat → az_S × Nat → az_M → Prop) (G : Nat) : Prop := ∀ (m : Nat) (Z : az_S × Nat) (M : az_M) (a1 : Int32) (a2 : Int32), m < 512 → Inv m Z M → ∃ (r : Int32) (M1 M2 : az_M), f_X11_person a1 a2 M = some (r, M1) ∧ f_X12_person a1 a2 M1 = some (r, M2) ∧ Inv (m + 1) Z M2
def Ob_of (Inv : Nat → az_S × Nat → az_M → Prop) (G : Nat) : Prop := ∀ (m : Nat) (Z : az_S × Nat) (M : az_M) (a1 : Int32) (a2 : Int32), m < 512 → Inv m Z M → ∃ (r : Int32) (M1 M2 : az_M), f_X11_of Z G a1 a2 M = some (r, M1) ∧ f_X12_of G a1 a2 M1 = some (r, M2) ∧ Inv (m + 1) Z M2
def Ob_quarrel (Inv : Nat → az_S × Nat → az_M → Prop) (G : Nat) : Prop := ∀ (m : Nat) (Z : az_S × Nat) (M : az_M) (a1 : Int32) (a2 : Int32) (a3 : Int32) (a4 : Int32), m < 512 → Inv m Z M → ∃ (r : Int32) (M1 M2 : az_M), f_X11_quarrel a1 a2 a3 a4 M = some (r, M1) ∧ f_X12_quarrel a1 a2 a3 a4 M1 = some (r, M2) ∧ Inv (m + 1) Z M2
def Ob_about (Inv : Nat → az_S × Nat → az_M → Prop) (G : Nat) : Prop := ∀ (m : Nat) (Z : az_S × Nat) (M : az_M) (a1 : Int32) (a2 : Int32), m < 512 → Inv m Z M → ∃ (r : Int32) (M1 M2 : az_M), f_X11_about Z G a1 a2 M = some (r, M1) ∧ f_X12_about G a1 a2 M1 = some (r, M2) ∧ Inv (m + 1) Z M2
def Ob_terms (Inv : Nat → az_S × Nat → az_M → Prop) (G : Nat) : Prop := ∀ (m : Nat) (Z : az_S × Nat) (M : az_M) (a1 : Int32) (a2 : Int32), m < 512 → Inv m Z M → ∃ (r : Int32) (M1 M2 : az_M), f_X11_terms a1 a2 M = some (r, M1) ∧ f_X12_terms a1 a2 M1 = some (r, M2) ∧ Inv (m + 1) Z M2
def Ob_feed (Inv : Nat → az_S × Nat → az_M → Prop) (G : Nat) : Prop := ∀ (m : Nat) (Z : az_S × Nat) (M : az_M) (a1 : Int32) (a2 : Int32) (a3 : Int32) (a4 : Int32) (a5 : Int32), m < 512 → Inv m Z M → ∃ (r : Int32) (M1 M2 : az_M), f_X11_feed G a1 a2 a3 a4 a5 M = some (r, M1) ∧ f_X12_feed G a1 a2 a3 a4 a5 M1 = some (r, M2) ∧ Inv (m + 1) Z M2
def Ob_end (Inv : Nat → az_S × Nat → az_M → Prop) (G : Nat) : Prop := ∀ (m : Nat) (Z : az_S × Nat) (M : az_M) (a1 : Int32), m < 512 → Inv m Z M → ∃ (r : Int32) (M1 M2 : az_M), f_X11_end a1 M = some (r, M1) ∧ f_X12_end a1 M1 = some (r, M2) ∧ Inv (m + 1) Z M2
def Ob_row (Inv : Nat → az_S × Nat → az_M → Prop) (G : Nat) : Prop := ∀ (m : Nat) (Z : az_S × Nat) (M : az_M), m < 512 → Inv m Z M → ∃ (r : Int32) (M1 M2 : az_M), f_X11_row G M = some (r, M1) ∧ f_X12_row G M1 = some (r, M2) ∧ Inv (m + 1) Z M2
def Ob_chips (Inv : Nat → az_S × Nat → az_M → Prop) (G : Nat) : Prop := ∀ (m : Nat) (Z : az_S × Nat) (M : az_M), m < 512 → Inv m Z M → ∃ (r : Int32) (M2 : az_M), f_X11_chips M = some r ∧ f_X12_chips M = some (r, M2) ∧ Inv (m + 1) Z M2
def Ob_law (Inv : Nat → az_S × Nat → az_M → Prop) (G : Nat) : Prop := ∀ (m : Nat) (Z : az_S × Nat) (M : az_M), m < 512 → Inv m Z M → (∀ q, f_X5_read Z G 0 M = some q → az_rokz Z q.2) ∧ ∃ (r : Int32) (M1 : az_M) (ks : List (Nat × Nat)) (M2 : az_M), f_X11_law Z G M = some (r, M1, ks) ∧ f_X12_law G M1 = some (r, M2) ∧ Inv (m + 1) (az_zn Z ks) M2
def Ob_orders (Inv : Nat → az_S × Nat → az_M → Prop) (G : Nat) : Prop := ∀ (m : Nat) (Z : az_S × Nat) (M : az_M), m < 512 → Inv m Z M → ∃ (r : Int32) (M1 M2 : az_M), f_X11_orders Z G M = some (r, M1) ∧ f_X12_orders G M1 = some (r, M2) ∧ Inv (m + 1) Z M2
def Ob_fault (Inv : Nat → az_S × Nat → az_M → Prop) (G : Nat) : Prop := ∀ (m : Nat) (Z : az_S × Nat) (M : az_M), m < 512 → Inv m Z M → ∃ (r : Int32) (M2 : az_M), f_X11_fault M = some r ∧ f_X12_fault M = some (r, M2) ∧ Inv (m + 1) Z M2
def Ob_stopped (Inv : Nat → az_S × Nat → az_M → Prop) (G : Nat) : Prop := ∀ (m : Nat) (Z : az_S × Nat) (M : az_M), m < 512 → Inv m Z M → ∃ (r : Int32) (M2 : az_M), f_X11_stopped M = some r ∧ f_X12_stopped M = some (r, M2) ∧ Inv (m + 1) Z M2
def Ob_force (Inv : Nat → az_S × Nat → az_M → Prop) (G : Nat) : Prop := ∀ (m : Nat) (Z : az_S × Nat) (M : az_M) (a1 : Int32), m < 512 → Inv m Z M → ∃ (r : Int32) (M1 M2 : az_M), f_X11_force a1 M = some (r, M1) ∧ f_X12_force a1 M1 = some (r, M2) ∧ Inv (m + 1) Z M2
def Ob_barred (Inv : Nat → az_S × Nat → az_M → Prop) (G : Nat) : Prop := ∀ (m : Nat) (Z : az_S × Nat) (M : az_M) (a1 : Int32) (a2 : Int32), m < 512 → Inv m Z M → ∃ (r : Int32) (M1 M2 : az_M), f_X11_barred Z G a1 a2 M = some (r, M1) ∧ f_X12_barred G a1 a2 M1 = some (r, M2) ∧ Inv (m + 1) Z M2
def Ob_fire (Inv : Nat → az_S × Nat → az_M → Prop) (G : Nat) : Prop := ∀ (m : Nat) (Z : az_S × Nat) (M : az_M) (a1 : Int32) (a2 : Int32), m < 512 → Inv m Z M → ∃ (r : Int32) (M1 M2 : az_M), f_X11_fire Z G a1 a2 M = some (r, M1) ∧ f_X12_fire G a1 a2 M1 = some (r, M2) ∧ Inv (m + 1) Z M2
def Ob_duel (Inv : Nat → az_S × Nat → az_M → Prop) (G : Nat) : Prop := ∀ (m : Nat) (Z : az_S × Nat) (M : az_M) (a1 : Int32) (a2 : Int32), m < 512 → Inv m Z M → ∃ (r : Int32) (M1 M2 : az_M), f_X11_duel Z G a1 a2 M = some (r, M1) ∧ f_X12_duel G a1 a2 M1 = some (r, M2) ∧ Inv (m + 1) Z M2
def Ob_rest (Inv : Nat → az_S × Nat → az_M → Prop) (G : Nat) : Prop := ∀ (m : Nat) (Z : az_S × Nat) (M : az_M) (a1 : Int32), m < 512 → Inv m Z M → ∃ (r : Int32) (M1 M2 : az_M), f_X11_rest a1 M = some (r, M1) ∧ f_X12_rest G a1 M1 = some (r, M2) ∧ Inv (m + 1) Z M2
def Ob_undo (Inv : Nat → az_S × Nat → az_M → Prop) (G : Nat) : Prop := ∀ (m : Nat) (Z : az_S × Nat) (M : az_M), m < 512 → Inv m Z M → ∃ (r : Int32) (M1 M2 : az_M), f_X11_undo M = some (r, M1) ∧ f_X12_undo G M1 = some (r, M2) ∧ Inv (m + 1) Z M2
def Ob_log (Inv : Nat → az_S × Nat → az_M → Prop) (G : Nat) : Prop := ∀ (m : Nat) (Z : az_S × Nat) (M : az_M) (a1 : Int32), m < 512 → Inv m Z M → ∃ (r : Int32) (M2 : az_M), f_X11_log a1 M = some r ∧ f_X12_log a1 M = some (r, M2) ∧ Inv (m + 1) Z M2
def Ob_odds (Inv : Nat → az_S × Nat → az_M → Prop) (G : Nat) : Prop := ∀ (m : Nat) (Z : az_S × Nat) (M : az_M) (a1 : Int32) (a2 : Int32), m < 512 → Inv m Z M → ∃ (r : Int32) (M1 M2 : az_M), f_X11_odds Z G a1 a2 M = some (r, M1) ∧ f_X12_odds G a1 a2 M1 = some (r, M2) ∧ Inv (m + 1) Z M2
def Ob_queue (Inv : Nat → az_S × Nat → az_M → Prop) (G : Nat) : Prop := ∀ (m : Nat) (Z : az_S × Nat) (M : az_M) (a1 : Int32), m < 512 → Inv m Z M → ∃ (r : Int32) (M1 M2 : az_M), f_X11_queue Z G a1 M = some (r, M1) ∧ f_X12_queue G a1 M1 = some (r, M2) ∧ Inv (m + 1) Z M2
def Ob_spades (Inv : Nat → az_S × Nat → az_M → Prop) (G : Nat) : Prop := ∀ (m : Nat) (Z : az_S × Nat) (M : az_M), m < 512 → Inv m Z M → ∃ (r : Int32) (M1 M2 : az_M), f_X11_spades Z G M = some (r, M1) ∧ f_X12_spades G M1 = some (r, M2) ∧ Inv (m + 1) Z M2
def Ob_free (Inv : Nat → az_S × Nat → az_M → Prop) (G : Nat) : Prop := ∀ (m : Nat) (Z : az_S × Nat) (M : az_M) (a1 : Int32), m < 512 → Inv m Z M → ∃ (r : Int32) (M2 : az_M), f_X11_free G a1 M = some r ∧ f_X12_free G a1 M = some (r, M2) ∧ Inv (m + 1) Z M2
def Ob_marks (Inv : Nat → az_S × Nat → az_M → Prop) (G : Nat) : Prop := ∀ (m : Nat) (Z : az_S × Nat) (M : az_M) (a1 : Int32) (a2 : Int32) (a3 : Int32) (a4 : Int32), m < 512 → Inv m Z M → ∃ (r : Int32) (M1 M2 : az_M), f_X11_marks Z G a1 a2 a3 a4 M = some (r, M1) ∧ f_X12_marks G a1 a2 a3 a4 M1 = some (r, M2) ∧ Inv (m + 1) Z M2
def Ob_game (Inv : Nat → az_S × Nat → az_M → Prop) (G : Nat) : Prop := ∀ (m : Nat) (Z : az_S × Nat) (M : az_M) (a1 : Int32), m < 512 → Inv m Z M → ∃ (r : Int32) (M1 M2 : az_M), f_X11_game Z G a1 M = some (r, M1) ∧ f_X12_game G a1 M1 = some (r, M2) ∧ Inv (m + 1) Z M2
def Ob_share (Inv : Nat → az_S × Nat → az_M → Prop) (G : Nat) : Prop := ∀ (m : Nat) (Z : az_S × Nat) (M : az_M) (a1 : Int32) (a2 : Int32), m < 512 → Inv m Z M → ∃ (r : Int32) (M2 : az_M), f_X11_share G a1 a2 M = some r ∧ f_X12_share G a1 a2 M = some (r, M2) ∧ Inv (m + 1) Z M2
def Ob_season (Inv : Nat → az_S × Nat → az_M → Prop) (G : Nat) : Prop := ∀ (m : Nat) (Z : az_S × Nat) (M : az_M) (a1 : Int32) (a2 : Int32), m < 512 → Inv m Z M → ∃ (r : Int32) (M1 M2 : az_M), f_X11_season Z G a1 a2 M = some (r, M1) ∧ f_X12_season G a1 a2 M1 = some (r, M2) ∧ Inv (m + 1) Z M2
def Ob_drawn (Inv : Nat → az_S × Nat → az_M → Prop) (G : Nat) : Prop := ∀ (m : Nat) (Z : az_S × Nat) (M : az_M) (a1 : Int32), m < 512 → Inv m Z M → ∃ (r : Int32) (M2 : az_M), f_X11_drawn a1 M = some r ∧ f_X12_drawn a1 M = some (r, M2) ∧ Inv (m + 1) Z M2
def Ob_image (Inv : Nat → az_S × Nat → az_M → Prop) (G : Nat) : Prop := ∀ (m : Nat) (Z : az_S × Nat) (M : az_M) (a1 : Int32), m < 512 → Inv m Z M → az_rokz Z M ∧ ∃ (r : Int32) (M1 : az_M) (ks : List (Nat × Nat)) (M2 : az_M), f_X11_image Z G a1 M = some (r, M1, ks) ∧ f_X12_image G a1 M1 = some (r, M2) ∧ Inv (m + 1) (az_zn Z ks) M2
def Ob_back (Inv : Nat → az_S × Nat → az_M → Prop) (G : Nat) : Prop := ∀ (m : Nat) (Z : az_S × Nat) (M : az_M) (a1 : Int32), m < 512 → Inv m Z M → ∃ (r : Int32) (M1 M2 : az_M), f_X11_back Z G a1 M = some (r, M1) ∧ f_X12_back G a1 M1 = some (r, M2) ∧ Inv (m + 1) Z M2
def Ob_count (Inv : Nat → az_S × Nat → az_M → Prop) (G : Nat) : Prop := ∀ (m : Nat) (Z : az_S × Nat) (M : az_M) (a1 : Int32), m < 512 → Inv m Z M → ∃ (r : Int32) (M2 : az_M), f_X11_count a1 M = some r ∧ f_X12_count a1 M = some (r, M2) ∧ Inv (m + 1) Z M2
def Ob_status (Inv : Nat → az_S × Nat → az_M → Prop) (G : Nat) : Prop := ∀ (m : Nat) (Z : az_S × Nat) (M : az_M), m < 512 → Inv m Z M → ∃ (r : Int32) (M2 : az_M), f_X11_status M = some r ∧ f_X12_status M = some (r, M2) ∧ Inv (m + 1) Z M2
set_option maxHeartbeats 4000000 in
set_option maxRecDepth 100000 in
theorem lc_put {Y : az_Y} {Q : State → Prop} {Inv : Nat → az_S × Nat → az_M → Prop} {G b L m k n : Nat} {xs : Nat → Int32} (hob : Ob_put Inv G) (hS : az_sc Y b L xs) (hR : Y.2.2.2.1.cells = 600000 ∧ Y.2.2.2.1.slots = 7302250) (hL : 6 * m + 6 ≤ L) (hL2 : L ≤ 3072) (hn : lw_H Y b Inv Q (m + 1)) {V : az_V} {M : az_M} (C : az_C (az_Yc Y k n) V code 4 RL ret 100) (hI : Inv m (az_z V) M) (hk : k ≤ 80 + 4 * m) (hn2 : n ≤ 40000 + 640 * m) : AW (az_Yc Y k n) V Q 4 M 196 [(0, .ref b), (1, .ref (az_ad V 0)), (2, .ref (az_ad V 40)), (3, .int (nI (6 * m)))] [] := by
  obtain ⟨r, M1, M2, e1, e2, hI2⟩ := hob m (az_z V) M (xs (6 * m + 1)) (xs (6 * m + 2)) (by omega) hI
  have o0 := C.hL.at 0 (ci := 11) rfl
  have o40 := C.hL.at 40 (ci := 12) rfl
  refine az_aload_n C 1 dL_law_196 rfl ?_
  refine az_aload_n C 0 dL_law_197 rfl ?_
  refine az_iload_n C 3 dL_law_198 rfl ?_
  refine az_iconst (v := 1) C dL_law_199 (by decide) ?_
  refine az_iadd C dL_law_200 ?_
  refine az_sarg (q := 1) C hS (by omega) (by omega) rfl dL_law_201 ?_
  refine az_aload_n C 0 dL_law_202 rfl ?_
  refine az_iload_n C 3 dL_law_203 rfl ?_
  refine az_iconst (v := 2) C dL_law_204 (by decide) ?_
  refine az_iadd C dL_law_205 ?_
  refine az_sarg (q := 2) C hS (by omega) (by omega) rfl dL_law_206 ?_
  refine az_cV (rest := []) (st2 := [.int r]) C [.int (xs (6 * m + 1)), .int (xs (6 * m + 2))] (c_X11_put C.hL (xs (6 * m + 1)) (xs (6 * m + 2)) M e1) (by decide) li_L_13 o0 (by decide) rfl rfl (Nat.le_of_ble_eq_true rfl) dL_law_207 rfl ?_
  refine az_aload_n C 2 dL_law_210 rfl ?_
  refine az_aload_n C 0 dL_law_211 rfl ?_
  refine az_iload_n C 3 dL_law_212 rfl ?_
  refine az_iconst (v := 1) C dL_law_213 (by decide) ?_
  refine az_iadd C dL_law_214 ?_
  refine az_sarg (q := 1) C hS (by omega) (by omega) rfl dL_law_215 ?_
  refine az_aload_n C 0 dL_law_216 rfl ?_
  refine az_iload_n C 3 dL_law_217 rfl ?_
  refine az_iconst (v := 2) C dL_law_218 (by decide) ?_
  refine az_iadd C dL_law_219 ?_
  refine az_sarg (q := 2) C hS (by omega) (by omega) rfl dL_law_220 ?_
  refine az_cV (rest := [.int r]) (st2 := [.int r, .int r]) C [.int (xs (6 * m + 1)), .int (xs (6 * m + 2))] (c_X12_put C.hL (xs (6 * m + 1)) (xs (6 * m + 2)) _ e2) (by decide) li_L_17 o40 (by decide) rfl rfl (Nat.le_of_ble_eq_true rfl) dL_law_221 rfl ?_
  refine az_icmp_eq C 1197 dL_law_224 (by decide) (fun _ => ?_) (fun c => absurd rfl c)
  exact lw_next hn C hI2 (by omega) (by omega)
set_option maxHeartbeats 4000000 in
set_option maxRecDepth 100000 in
theorem lc_bullet {Y : az_Y} {Q : State → Prop} {Inv : Nat → az_S × Nat → az_M → Prop} {G b L m k n : Nat} {xs : Nat → Int32} (hob : Ob_bullet Inv G) (hS : az_sc Y b L xs) (hR : Y.2.2.2.1.cells = 600000 ∧ Y.2.2.2.1.slots = 7302250) (hL : 6 * m + 6 ≤ L) (hL2 : L ≤ 3072) (hn : lw_H Y b Inv Q (m + 1)) {V : az_V} {M : az_M} (C : az_C (az_Yc Y k n) V code 4 RL ret 100) (hI : Inv m (az_z V) M) (hk : k ≤ 80 + 4 * m) (hn2 : n ≤ 40000 + 640 * m) : AW (az_Yc Y k n) V Q 4 M 229 [(0, .ref b), (1, .ref (az_ad V 0)), (2, .ref (az_ad V 40)), (3, .int (nI (6 * m)))] [] := by
  obtain ⟨r, M2, e1, e2, hI2⟩ := hob m (az_z V) M (xs (6 * m + 1)) (by omega) hI
  have o0 := C.hL.at 0 (ci := 11) rfl
  have o40 := C.hL.at 40 (ci := 12) rfl
  refine az_aload_n C 1 dL_law_229 rfl ?_
  refine az_aload_n C 0 dL_law_230 rfl ?_
  refine az_iload_n C 3 dL_law_231 rfl ?_
  refine az_iconst (v := 1) C dL_law_232 (by decide) ?_
  refine az_iadd C dL_law_233 ?_
  refine az_sarg (q := 1) C hS (by omega) (by omega) rfl dL_law_234 ?_
  refine az_cV (rest := []) (st2 := [.int r]) C [.int (xs (6 * m + 1))] (c_X11_bullet C.hL (xs (6 * m + 1)) M e1) (by decide) li_L_18 o0 (by decide) rfl rfl (Nat.le_of_ble_eq_true rfl) dL_law_235 rfl ?_
  refine az_aload_n C 2 dL_law_238 rfl ?_
  refine az_aload_n C 0 dL_law_239 rfl ?_
  refine az_iload_n C 3 dL_law_240 rfl ?_
  refine az_iconst (v := 1) C dL_law_241 (by decide) ?_
  refine az_iadd C dL_law_242 ?_
  refine az_sarg (q := 1) C hS (by omega) (by omega) rfl dL_law_243 ?_
  refine az_cV (rest := [.int r]) (st2 := [.int r, .int r]) C [.int (xs (6 * m + 1))] (c_X12_bullet C.hL (xs (6 * m + 1)) _ e2) (by decide) li_L_22 o40 (by decide) rfl rfl (Nat.le_of_ble_eq_true rfl) dL_law_244 rfl ?_
  refine az_icmp_eq C 1197 dL_law_247 (by decide) (fun _ => ?_) (fun c => absurd rfl c)
  exact lw_next hn C hI2 (by omega) (by omega)
set_option maxHeartbeats 4000000 in
set_option maxRecDepth 100000 in
theorem lc_place {Y : az_Y} {Q : State → Prop} {Inv : Nat → az_S × Nat → az_M → Prop} {G b L m k n : Nat} {xs : Nat → Int32} (hob : Ob_place Inv G) (hS : az_sc Y b L xs) (hR : Y.2.2.2.1.cells = 600000 ∧ Y.2.2.2.1.slots = 7302250) (hL : 6 * m + 6 ≤ L) (hL2 : L ≤ 3072) (hn : lw_H Y b Inv Q (m + 1)) {V : az_V} {M : az_M} (C : az_C (az_Yc Y k n) V code 4 RL ret 100) (hI : Inv m (az_z V) M) (hk : k ≤ 80 + 4 * m) (hn2 : n ≤ 40000 + 640 * m) : AW (az_Yc Y k n) V Q 4 M 252 [(0, .ref b), (1, .ref (az_ad V 0)), (2, .ref (az_ad V 40)), (3, .int (nI (6 * m)))] [] := by
  obtain ⟨r, M1, M2, e1, e2, hI2⟩ := hob m (az_z V) M (xs (6 * m + 1)) (xs (6 * m + 2)) (xs (6 * m + 3)) (by omega) hI
  have o0 := C.hL.at 0 (ci := 11) rfl
  have o40 := C.hL.at 40 (ci := 12) rfl
  refine az_aload_n C 1 dL_law_252 rfl ?_
  refine az_aload_n C 0 dL_law_253 rfl ?_
  refine az_iload_n C 3 dL_law_254 rfl ?_
  refine az_iconst (v := 1) C dL_law_255 (by decide) ?_
  refine az_iadd C dL_law_256 ?_
  refine az_sarg (q := 1) C hS (by omega) (by omega) rfl dL_law_257 ?_
  refine az_aload_n C 0 dL_law_258 rfl ?_
  refine az_iload_n C 3 dL_law_259 rfl ?_
  refine az_iconst (v := 2) C dL_law_260 (by decide) ?_
  refine az_iadd C dL_law_261 ?_
  refine az_sarg (q := 2) C hS (by omega) (by omega) rfl dL_law_262 ?_
  refine az_aload_n C 0 dL_law_263 rfl ?_
  refine az_iload_n C 3 dL_law_264 rfl ?_
  refine az_iconst (v := 3) C dL_law_265 (by decide) ?_
  refine az_iadd C dL_law_266 ?_
  refine az_sarg (q := 3) C hS (by omega) (by omega) rfl dL_law_267 ?_
  refine az_cV (rest := []) (st2 := [.int r]) C [.int (xs (6 * m + 1)), .int (xs (6 * m + 2)), .int (xs (6 * m + 3))] (c_X11_place C.hL (xs (6 * m + 1)) (xs (6 * m + 2)) (xs (6 * m + 3)) M e1) (by decide) li_L_23 o0 (by decide) rfl rfl (Nat.le_of_ble_eq_true rfl) dL_law_268 rfl ?_
  refine az_aload_n C 2 dL_law_271 rfl ?_
  refine az_aload_n C 0 dL_law_272 rfl ?_
  refine az_iload_n C 3 dL_law_273 rfl ?_
  refine az_iconst (v := 1) C dL_law_274 (by decide) ?_
  refine az_iadd C dL_law_275 ?_
  refine az_sarg (q := 1) C hS (by omega) (by omega) rfl dL_law_276 ?_
  refine az_aload_n C 0 dL_law_277 rfl ?_
  refine az_iload_n C 3 dL_law_278 rfl ?_
  refine az_iconst (v := 2) C dL_law_279 (by decide) ?_
  refine az_iadd C dL_law_280 ?_
  refine az_sarg (q := 2) C hS (by omega) (by omega) rfl dL_law_281 ?_
  refine az_aload_n C 0 dL_law_282 rfl ?_
  refine az_iload_n C 3 dL_law_283 rfl ?_
  refine az_iconst (v := 3) C dL_law_284 (by decide) ?_
  refine az_iadd C dL_law_285 ?_
  refine az_sarg (q := 3) C hS (by omega) (by omega) rfl dL_law_286 ?_
  refine az_cV (rest := [.int r]) (st2 := [.int r, .int r]) C [.int (xs (6 * m + 1)), .int (xs (6 * m + 2)), .int (xs (6 * m + 3))] (c_X12_place C.hL (xs (6 * m + 1)) (xs (6 * m + 2)) (xs (6 * m + 3)) _ e2) (by decide) li_L_27 o40 (by decide) rfl rfl (Nat.le_of_ble_eq_true rfl) dL_law_287 rfl ?_
  refine az_icmp_eq C 1197 dL_law_290 (by decide) (fun _ => ?_) (fun c => absurd rfl c)
  exact lw_next hn C hI2 (by omega) (by omega)
set_option maxHeartbeats 4000000 in
set_option maxRecDepth 100000 in
theorem lc_at {Y : az_Y} {Q : State → Prop} {Inv : Nat → az_S × Nat → az_M → Prop} {G b L m k n : Nat} {xs : Nat → Int32} (hob : Ob_at Inv G) (hS : az_sc Y b L xs) (hR : Y.2.2.2.1.cells = 600000 ∧ Y.2.2.2.1.slots = 7302250) (hL : 6 * m + 6 ≤ L) (hL2 : L ≤ 3072) (hn : lw_H Y b Inv Q (m + 1)) {V : az_V} {M : az_M} (C : az_C (az_Yc Y k n) V code 4 RL ret 100) (hI : Inv m (az_z V) M) (hk : k ≤ 80 + 4 * m) (hn2 : n ≤ 40000 + 640 * m) : AW (az_Yc Y k n) V Q 4 M 295 [(0, .ref b), (1, .ref (az_ad V 0)), (2, .ref (az_ad V 40)), (3, .int (nI (6 * m)))] [] := by
  obtain ⟨r, M1, M2, e1, e2, hI2⟩ := hob m (az_z V) M (xs (6 * m + 1)) (xs (6 * m + 2)) (by omega) hI
  have o0 := C.hL.at 0 (ci := 11) rfl
  have o40 := C.hL.at 40 (ci := 12) rfl
  refine az_aload_n C 1 dL_law_295 rfl ?_
  refine az_aload_n C 0 dL_law_296 rfl ?_
  refine az_iload_n C 3 dL_law_297 rfl ?_
  refine az_iconst (v := 1) C dL_law_298 (by decide) ?_
  refine az_iadd C dL_law_299 ?_
  refine az_sarg (q := 1) C hS (by omega) (by omega) rfl dL_law_300 ?_
  refine az_aload_n C 0 dL_law_301 rfl ?_
  refine az_iload_n C 3 dL_law_302 rfl ?_
  refine az_iconst (v := 2) C dL_law_303 (by decide) ?_
  refine az_iadd C dL_law_304 ?_
  refine az_sarg (q := 2) C hS (by omega) (by omega) rfl dL_law_305 ?_
  refine az_cV (rest := []) (st2 := [.int r]) C [.int (xs (6 * m + 1)), .int (xs (6 * m + 2))] (c_X11_at C.hL G (xs (6 * m + 1)) (xs (6 * m + 2)) M e1) (by decide) li_L_28 o0 (by decide) rfl rfl (Nat.le_of_ble_eq_true rfl) dL_law_306 rfl ?_
  refine az_aload_n C 2 dL_law_309 rfl ?_
  refine az_aload_n C 0 dL_law_310 rfl ?_
  refine az_iload_n C 3 dL_law_311 rfl ?_
  refine az_iconst (v := 1) C dL_law_312 (by decide) ?_
  refine az_iadd C dL_law_313 ?_
  refine az_sarg (q := 1) C hS (by omega) (by omega) rfl dL_law_314 ?_
  refine az_aload_n C 0 dL_law_315 rfl ?_
  refine az_iload_n C 3 dL_law_316 rfl ?_
  refine az_iconst (v := 2) C dL_law_317 (by decide) ?_
  refine az_iadd C dL_law_318 ?_
  refine az_sarg (q := 2) C hS (by omega) (by omega) rfl dL_law_319 ?_
  refine az_cV (rest := [.int r]) (st2 := [.int r, .int r]) C [.int (xs (6 * m + 1)), .int (xs (6 * m + 2))] (c_X12_at C.hL G (xs (6 * m + 1)) (xs (6 * m + 2)) _ e2) (by decide) li_L_31 o40 (by decide) rfl rfl (Nat.le_of_ble_eq_true rfl) dL_law_320 rfl ?_
  refine az_icmp_eq C 1197 dL_law_323 (by decide) (fun _ => ?_) (fun c => absurd rfl c)
  exact lw_next hn C hI2 (by omega) (by omega)
set_option maxHeartbeats 4000000 in
set_option maxRecDepth 100000 in
theorem lc_person {Y : az_Y} {Q : State → Prop} {Inv : Nat → az_S × Nat → az_M → Prop} {G b L m k n : Nat} {xs : Nat → Int32} (hob : Ob_person Inv G) (hS : az_sc Y b L xs) (hR : Y.2.2.2.1.cells = 600000 ∧ Y.2.2.2.1.slots = 7302250) (hL : 6 * m + 6 ≤ L) (hL2 : L ≤ 3072) (hn : lw_H Y b Inv Q (m + 1)) {V : az_V} {M : az_M} (C : az_C (az_Yc Y k n) V code 4 RL ret 100) (hI : Inv m (az_z V) M) (hk : k ≤ 80 + 4 * m) (hn2 : n ≤ 40000 + 640 * m) : AW (az_Yc Y k n) V Q 4 M 328 [(0, .ref b), (1, .ref (az_ad V 0)), (2, .ref (az_ad V 40)), (3, .int (nI (6 * m)))] [] := by
  obtain ⟨r, M1, M2, e1, e2, hI2⟩ := hob m (az_z V) M (xs (6 * m + 1)) (xs (6 * m + 2)) (by omega) hI
  have o0 := C.hL.at 0 (ci := 11) rfl
  have o40 := C.hL.at 40 (ci := 12) rfl
  refine az_aload_n C 1 dL_law_328 rfl ?_
  refine az_aload_n C 0 dL_law_329 rfl ?_
  refine az_iload_n C 3 dL_law_330 rfl ?_
  refine az_iconst (v := 1) C dL_law_331 (by decide) ?_
  refine az_iadd C dL_law_332 ?_
  refine az_sarg (q := 1) C hS (by omega) (by omega) rfl dL_law_333 ?_
  refine az_aload_n C 0 dL_law_334 rfl ?_
  refine az_iload_n C 3 dL_law_335 rfl ?_
  refine az_iconst (v := 2) C dL_law_336 (by decide) ?_
  refine az_iadd C dL_law_337 ?_
  refine az_sarg (q := 2) C hS (by omega) (by omega) rfl dL_law_338 ?_
  refine az_cV (rest := []) (st2 := [.int r]) C [.int (xs (6 * m + 1)), .int (xs (6 * m + 2))] (c_X11_person C.hL (xs (6 * m + 1)) (xs (6 * m + 2)) M e1) (by decide) li_L_32 o0 (by decide) rfl rfl (Nat.le_of_ble_eq_true rfl) dL_law_339 rfl ?_
  refine az_aload_n C 2 dL_law_342 rfl ?_
  refine az_aload_n C 0 dL_law_343 rfl ?_
  refine az_iload_n C 3 dL_law_344 rfl ?_
  refine az_iconst (v := 1) C dL_law_345 (by decide) ?_
  refine az_iadd C dL_law_346 ?_
  refine az_sarg (q := 1) C hS (by omega) (by omega) rfl dL_law_347 ?_
  refine az_aload_n C 0 dL_law_348 rfl ?_
  refine az_iload_n C 3 dL_law_349 rfl ?_
  refine az_iconst (v := 2) C dL_law_350 (by decide) ?_
  refine az_iadd C dL_law_351 ?_
  refine az_sarg (q := 2) C hS (by omega) (by omega) rfl dL_law_352 ?_
  refine az_cV (rest := [.int r]) (st2 := [.int r, .int r]) C [.int (xs (6 * m + 1)), .int (xs (6 * m + 2))] (c_X12_person C.hL (xs (6 * m + 1)) (xs (6 * m + 2)) _ e2) (by decide) li_L_35 o40 (by decide) rfl rfl (Nat.le_of_ble_eq_true rfl) dL_law_353 rfl ?_
  refine az_icmp_eq C 1197 dL_law_356 (by decide) (fun _ => ?_) (fun c => absurd rfl c)
  exact lw_next hn C hI2 (by omega) (by omega)
set_option maxHeartbeats 4000000 in
set_option maxRecDepth 100000 in
theorem lc_of {Y : az_Y} {Q : State → Prop} {Inv : Nat → az_S × Nat → az_M → Prop} {G b L m k n : Nat} {xs : Nat → Int32} (hob : Ob_of Inv G) (hS : az_sc Y b L xs) (hR : Y.2.2.2.1.cells = 600000 ∧ Y.2.2.2.1.slots = 7302250) (hL : 6 * m + 6 ≤ L) (hL2 : L ≤ 3072) (hn : lw_H Y b Inv Q (m + 1)) {V : az_V} {M : az_M} (C : az_C (az_Yc Y k n) V code 4 RL ret 100) (hI : Inv m (az_z V) M) (hk : k ≤ 80 + 4 * m) (hn2 : n ≤ 40000 + 640 * m) : AW (az_Yc Y k n) V Q 4 M 361 [(0, .ref b), (1, .ref (az_ad V 0)), (2, .ref (az_ad V 40)), (3, .int (nI (6 * m)))] [] := by
  obtain ⟨r, M1, M2, e1, e2, hI2⟩ := hob m (az_z V) M (xs (6 * m + 1)) (xs (6 * m + 2)) (by omega) hI
  have o0 := C.hL.at 0 (ci := 11) rfl
  have o40 := C.hL.at 40 (ci := 12) rfl
  refine az_aload_n C 1 dL_law_361 rfl ?_
  refine az_aload_n C 0 dL_law_362 rfl ?_
  refine az_iload_n C 3 dL_law_363 rfl ?_
  refine az_iconst (v := 1) C dL_law_364 (by decide) ?_
  refine az_iadd C dL_law_365 ?_
  refine az_sarg (q := 1) C hS (by omega) (by omega) rfl dL_law_366 ?_
  refine az_aload_n C 0 dL_law_367 rfl ?_
  refine az_iload_n C 3 dL_law_368 rfl ?_
  refine az_iconst (v := 2) C dL_law_369 (by decide) ?_
  refine az_iadd C dL_law_370 ?_
  refine az_sarg (q := 2) C hS (by omega) (by omega) rfl dL_law_371 ?_
  refine az_cV (rest := []) (st2 := [.int r]) C [.int (xs (6 * m + 1)), .int (xs (6 * m + 2))] (c_X11_of C.hL G (xs (6 * m + 1)) (xs (6 * m + 2)) M e1) (by decide) li_L_36 o0 (by decide) rfl rfl (Nat.le_of_ble_eq_true rfl) dL_law_372 rfl ?_
  refine az_aload_n C 2 dL_law_375 rfl ?_
  refine az_aload_n C 0 dL_law_376 rfl ?_
  refine az_iload_n C 3 dL_law_377 rfl ?_
  refine az_iconst (v := 1) C dL_law_378 (by decide) ?_
  refine az_iadd C dL_law_379 ?_
  refine az_sarg (q := 1) C hS (by omega) (by omega) rfl dL_law_380 ?_
  refine az_aload_n C 0 dL_law_381 rfl ?_
  refine az_iload_n C 3 dL_law_382 rfl ?_
  refine az_iconst (v := 2) C dL_law_383 (by decide) ?_
  refine az_iadd C dL_law_384 ?_
  refine az_sarg (q := 2) C hS (by omega) (by omega) rfl dL_law_385 ?_
  refine az_cV (rest := [.int r]) (st2 := [.int r, .int r]) C [.int (xs (6 * m + 1)), .int (xs (6 * m + 2))] (c_X12_of C.hL G (xs (6 * m + 1)) (xs (6 * m + 2)) _ e2) (by decide) li_L_39 o40 (by decide) rfl rfl (Nat.le_of_ble_eq_true rfl) dL_law_386 rfl ?_
  refine az_icmp_eq C 1197 dL_law_389 (by decide) (fun _ => ?_) (fun c => absurd rfl c)
  exact lw_next hn C hI2 (by omega) (by omega)
set_option maxHeartbeats 4000000 in
set_option maxRecDepth 100000 in
theorem lc_quarrel {Y : az_Y} {Q : State → Prop} {Inv : Nat → az_S × Nat → az_M → Prop} {G b L m k n : Nat} {xs : Nat → Int32} (hob : Ob_quarrel Inv G) (hS : az_sc Y b L xs) (hR : Y.2.2.2.1.cells = 600000 ∧ Y.2.2.2.1.slots = 7302250) (hL : 6 * m + 6 ≤ L) (hL2 : L ≤ 3072) (hn : lw_H Y b Inv Q (m + 1)) {V : az_V} {M : az_M} (C : az_C (az_Yc Y k n) V code 4 RL ret 100) (hI : Inv m (az_z V) M) (hk : k ≤ 80 + 4 * m) (hn2 : n ≤ 40000 + 640 * m) : AW (az_Yc Y k n) V Q 4 M 394 [(0, .ref b), (1, .ref (az_ad V 0)), (2, .ref (az_ad V 40)), (3, .int (nI (6 * m)))] [] := by
  obtain ⟨r, M1, M2, e1, e2, hI2⟩ := hob m (az_z V) M (xs (6 * m + 1)) (xs (6 * m + 2)) (xs (6 * m + 3)) (xs (6 * m + 4)) (by omega) hI
  have o0 := C.hL.at 0 (ci := 11) rfl
  have o40 := C.hL.at 40 (ci := 12) rfl
  refine az_aload_n C 1 dL_law_394 rfl ?_
  refine az_aload_n C 0 dL_law_395 rfl ?_
  refine az_iload_n C 3 dL_law_396 rfl ?_
  refine az_iconst (v := 1) C dL_law_397 (by decide) ?_
  refine az_iadd C dL_law_398 ?_
  refine az_sarg (q := 1) C hS (by omega) (by omega) rfl dL_law_399 ?_
  refine az_aload_n C 0 dL_law_400 rfl ?_
  refine az_iload_n C 3 dL_law_401 rfl ?_
  refine az_iconst (v := 2) C dL_law_402 (by decide) ?_
  refine az_iadd C dL_law_403 ?_
  refine az_sarg (q := 2) C hS (by omega) (by omega) rfl dL_law_404 ?_
  refine az_aload_n C 0 dL_law_405 rfl ?_
  refine az_iload_n C 3 dL_law_406 rfl ?_
  refine az_iconst (v := 3) C dL_law_407 (by decide) ?_
  refine az_iadd C dL_law_408 ?_
  refine az_sarg (q := 3) C hS (by omega) (by omega) rfl dL_law_409 ?_
  refine az_aload_n C 0 dL_law_410 rfl ?_
  refine az_iload_n C 3 dL_law_411 rfl ?_
  refine az_iconst (v := 4) C dL_law_412 (by decide) ?_
  refine az_iadd C dL_law_413 ?_
  refine az_sarg (q := 4) C hS (by omega) (by omega) rfl dL_law_414 ?_
  refine az_cV (rest := []) (st2 := [.int r]) C [.int (xs (6 * m + 1)), .int (xs (6 * m + 2)), .int (xs (6 * m + 3)), .int (xs (6 * m + 4))] (c_X11_quarrel C.hL (xs (6 * m + 1)) (xs (6 * m + 2)) (xs (6 * m + 3)) (xs (6 * m + 4)) M e1) (by decide) li_L_40 o0 (by decide) rfl rfl (Nat.le_of_ble_eq_true rfl) dL_law_415 rfl ?_
  refine az_aload_n C 2 dL_law_418 rfl ?_
  refine az_aload_n C 0 dL_law_419 rfl ?_
  refine az_iload_n C 3 dL_law_420 rfl ?_
  refine az_iconst (v := 1) C dL_law_421 (by decide) ?_
  refine az_iadd C dL_law_422 ?_
  refine az_sarg (q := 1) C hS (by omega) (by omega) rfl dL_law_423 ?_
  refine az_aload_n C 0 dL_law_424 rfl ?_
  refine az_iload_n C 3 dL_law_425 rfl ?_
  refine az_iconst (v := 2) C dL_law_426 (by decide) ?_
  refine az_iadd C dL_law_427 ?_
  refine az_sarg (q := 2) C hS (by omega) (by omega) rfl dL_law_428 ?_
  refine az_aload_n C 0 dL_law_429 rfl ?_
  refine az_iload_n C 3 dL_law_430 rfl ?_
  refine az_iconst (v := 3) C dL_law_431 (by decide) ?_
  refine az_iadd C dL_law_432 ?_
  refine az_sarg (q := 3) C hS (by omega) (by omega) rfl dL_law_433 ?_
  refine az_aload_n C 0 dL_law_434 rfl ?_
  refine az_iload_n C 3 dL_law_435 rfl ?_
  refine az_iconst (v := 4) C dL_law_436 (by decide) ?_
  refine az_iadd C dL_law_437 ?_
  refine az_sarg (q := 4) C hS (by omega) (by omega) rfl dL_law_438 ?_
  refine az_cV (rest := [.int r]) (st2 := [.int r, .int r]) C [.int (xs (6 * m + 1)), .int (xs (6 * m + 2)), .int (xs (6 * m + 3)), .int (xs (6 * m + 4))] (c_X12_quarrel C.hL (xs (6 * m + 1)) (xs (6 * m + 2)) (xs (6 * m + 3)) (xs (6 * m + 4)) _ e2) (by decide) li_L_44 o40 (by decide) rfl rfl (Nat.le_of_ble_eq_true rfl) dL_law_439 rfl ?_
  refine az_icmp_eq C 1197 dL_law_442 (by decide) (fun _ => ?_) (fun c => absurd rfl c)
  exact lw_next hn C hI2 (by omega) (by omega)
set_option maxHeartbeats 4000000 in
set_option maxRecDepth 100000 in
theorem lc_about {Y : az_Y} {Q : State → Prop} {Inv : Nat → az_S × Nat → az_M → Prop} {G b L m k n : Nat} {xs : Nat → Int32} (hob : Ob_about Inv G) (hS : az_sc Y b L xs) (hR : Y.2.2.2.1.cells = 600000 ∧ Y.2.2.2.1.slots = 7302250) (hL : 6 * m + 6 ≤ L) (hL2 : L ≤ 3072) (hn : lw_H Y b Inv Q (m + 1)) {V : az_V} {M : az_M} (C : az_C (az_Yc Y k n) V code 4 RL ret 100) (hI : Inv m (az_z V) M) (hk : k ≤ 80 + 4 * m) (hn2 : n ≤ 40000 + 640 * m) : AW (az_Yc Y k n) V Q 4 M 447 [(0, .ref b), (1, .ref (az_ad V 0)), (2, .ref (az_ad V 40)), (3, .int (nI (6 * m)))] [] := by
  obtain ⟨r, M1, M2, e1, e2, hI2⟩ := hob m (az_z V) M (xs (6 * m + 1)) (xs (6 * m + 2)) (by omega) hI
  have o0 := C.hL.at 0 (ci := 11) rfl
  have o40 := C.hL.at 40 (ci := 12) rfl
  refine az_aload_n C 1 dL_law_447 rfl ?_
  refine az_aload_n C 0 dL_law_448 rfl ?_
  refine az_iload_n C 3 dL_law_449 rfl ?_
  refine az_iconst (v := 1) C dL_law_450 (by decide) ?_
  refine az_iadd C dL_law_451 ?_
  refine az_sarg (q := 1) C hS (by omega) (by omega) rfl dL_law_452 ?_
  refine az_aload_n C 0 dL_law_453 rfl ?_
  refine az_iload_n C 3 dL_law_454 rfl ?_
  refine az_iconst (v := 2) C dL_law_455 (by decide) ?_
  refine az_iadd C dL_law_456 ?_
  refine az_sarg (q := 2) C hS (by omega) (by omega) rfl dL_law_457 ?_
  refine az_cV (rest := []) (st2 := [.int r]) C [.int (xs (6 * m + 1)), .int (xs (6 * m + 2))] (c_X11_about C.hL G (xs (6 * m + 1)) (xs (6 * m + 2)) M e1) (by decide) li_L_45 o0 (by decide) rfl rfl (Nat.le_of_ble_eq_true rfl) dL_law_458 rfl ?_
  refine az_aload_n C 2 dL_law_461 rfl ?_
  refine az_aload_n C 0 dL_law_462 rfl ?_
  refine az_iload_n C 3 dL_law_463 rfl ?_
  refine az_iconst (v := 1) C dL_law_464 (by decide) ?_
  refine az_iadd C dL_law_465 ?_
  refine az_sarg (q := 1) C hS (by omega) (by omega) rfl dL_law_466 ?_
  refine az_aload_n C 0 dL_law_467 rfl ?_
  refine az_iload_n C 3 dL_law_468 rfl ?_
  refine az_iconst (v := 2) C dL_law_469 (by decide) ?_
  refine az_iadd C dL_law_470 ?_
  refine az_sarg (q := 2) C hS (by omega) (by omega) rfl dL_law_471 ?_
  refine az_cV (rest := [.int r]) (st2 := [.int r, .int r]) C [.int (xs (6 * m + 1)), .int (xs (6 * m + 2))] (c_X12_about C.hL G (xs (6 * m + 1)) (xs (6 * m + 2)) _ e2) (by decide) li_L_48 o40 (by decide) rfl rfl (Nat.le_of_ble_eq_true rfl) dL_law_472 rfl ?_
  refine az_icmp_eq C 1197 dL_law_475 (by decide) (fun _ => ?_) (fun c => absurd rfl c)
  exact lw_next hn C hI2 (by omega) (by omega)
set_option maxHeartbeats 4000000 in
set_option maxRecDepth 100000 in
theorem lc_terms {Y : az_Y} {Q : State → Prop} {Inv : Nat → az_S × Nat → az_M → Prop} {G b L m k n : Nat} {xs : Nat → Int32} (hob : Ob_terms Inv G) (hS : az_sc Y b L xs) (hR : Y.2.2.2.1.cells = 600000 ∧ Y.2.2.2.1.slots = 7302250) (hL : 6 * m + 6 ≤ L) (hL2 : L ≤ 3072) (hn : lw_H Y b Inv Q (m + 1)) {V : az_V} {M : az_M} (C : az_C (az_Yc Y k n) V code 4 RL ret 100) (hI : Inv m (az_z V) M) (hk : k ≤ 80 + 4 * m) (hn2 : n ≤ 40000 + 640 * m) : AW (az_Yc Y k n) V Q 4 M 480 [(0, .ref b), (1, .ref (az_ad V 0)), (2, .ref (az_ad V 40)), (3, .int (nI (6 * m)))] [] := by
  obtain ⟨r, M1, M2, e1, e2, hI2⟩ := hob m (az_z V) M (xs (6 * m + 1)) (xs (6 * m + 2)) (by omega) hI
  have o0 := C.hL.at 0 (ci := 11) rfl
  have o40 := C.hL.at 40 (ci := 12) rfl
  refine az_aload_n C 1 dL_law_480 rfl ?_
  refine az_aload_n C 0 dL_law_481 rfl ?_
  refine az_iload_n C 3 dL_law_482 rfl ?_
  refine az_iconst (v := 1) C dL_law_483 (by decide) ?_
  refine az_iadd C dL_law_484 ?_
  refine az_sarg (q := 1) C hS (by omega) (by omega) rfl dL_law_485 ?_
  refine az_aload_n C 0 dL_law_486 rfl ?_
  refine az_iload_n C 3 dL_law_487 rfl ?_
  refine az_iconst (v := 2) C dL_law_488 (by decide) ?_
  refine az_iadd C dL_law_489 ?_
  refine az_sarg (q := 2) C hS (by omega) (by omega) rfl dL_law_490 ?_
  refine az_cV (rest := []) (st2 := [.int r]) C [.int (xs (6 * m + 1)), .int (xs (6 * m + 2))] (c_X11_terms C.hL (xs (6 * m + 1)) (xs (6 * m + 2)) M e1) (by decide) li_L_49 o0 (by decide) rfl rfl (Nat.le_of_ble_eq_true rfl) dL_law_491 rfl ?_
  refine az_aload_n C 2 dL_law_494 rfl ?_
  refine az_aload_n C 0 dL_law_495 rfl ?_
  refine az_iload_n C 3 dL_law_496 rfl ?_
  refine az_iconst (v := 1) C dL_law_497 (by decide) ?_
  refine az_iadd C dL_law_498 ?_
  refine az_sarg (q := 1) C hS (by omega) (by omega) rfl dL_law_499 ?_
  refine az_aload_n C 0 dL_law_500 rfl ?_
  refine az_iload_n C 3 dL_law_501 rfl ?_
  refine az_iconst (v := 2) C dL_law_502 (by decide) ?_
  refine az_iadd C dL_law_503 ?_
  refine az_sarg (q := 2) C hS (by omega) (by omega) rfl dL_law_504 ?_
  refine az_cV (rest := [.int r]) (st2 := [.int r, .int r]) C [.int (xs (6 * m + 1)), .int (xs (6 * m + 2))] (c_X12_terms C.hL (xs (6 * m + 1)) (xs (6 * m + 2)) _ e2) (by decide) li_L_52 o40 (by decide) rfl rfl (Nat.le_of_ble_eq_true rfl) dL_law_505 rfl ?_
  refine az_icmp_eq C 1197 dL_law_508 (by decide) (fun _ => ?_) (fun c => absurd rfl c)
  exact lw_next hn C hI2 (by omega) (by omega)
set_option maxHeartbeats 4000000 in
set_option maxRecDepth 100000 in
theorem lc_feed {Y : az_Y} {Q : State → Prop} {Inv : Nat → az_S × Nat → az_M → Prop} {G b L m k n : Nat} {xs : Nat → Int32} (hob : Ob_feed Inv G) (hS : az_sc Y b L xs) (hR : Y.2.2.2.1.cells = 600000 ∧ Y.2.2.2.1.slots = 7302250) (hL : 6 * m + 6 ≤ L) (hL2 : L ≤ 3072) (hn : lw_H Y b Inv Q (m + 1)) {V : az_V} {M : az_M} (C : az_C (az_Yc Y k n) V code 4 RL ret 100) (hI : Inv m (az_z V) M) (hk : k ≤ 80 + 4 * m) (hn2 : n ≤ 40000 + 640 * m) : AW (az_Yc Y k n) V Q 4 M 513 [(0, .ref b), (1, .ref (az_ad V 0)), (2, .ref (az_ad V 40)), (3, .int (nI (6 * m)))] [] := by
  obtain ⟨r, M1, M2, e1, e2, hI2⟩ := hob m (az_z V) M (xs (6 * m + 1)) (xs (6 * m + 2)) (xs (6 * m + 3)) (xs (6 * m + 4)) (xs (6 * m + 5)) (by omega) hI
  have o0 := C.hL.at 0 (ci := 11) rfl
  have o40 := C.hL.at 40 (ci := 12) rfl
  refine az_aload_n C 1 dL_law_513 rfl ?_
  refine az_aload_n C 0 dL_law_514 rfl ?_
  refine az_iload_n C 3 dL_law_515 rfl ?_
  refine az_iconst (v := 1) C dL_law_516 (by decide) ?_
  refine az_iadd C dL_law_517 ?_
  refine az_sarg (q := 1) C hS (by omega) (by omega) rfl dL_law_518 ?_
  refine az_aload_n C 0 dL_law_519 rfl ?_
  refine az_iload_n C 3 dL_law_520 rfl ?_
  refine az_iconst (v := 2) C dL_law_521 (by decide) ?_
  refine az_iadd C dL_law_522 ?_
  refine az_sarg (q := 2) C hS (by omega) (by omega) rfl dL_law_523 ?_
  refine az_aload_n C 0 dL_law_524 rfl ?_
  refine az_iload_n C 3 dL_law_525 rfl ?_
  refine az_iconst (v := 3) C dL_law_526 (by decide) ?_
  refine az_iadd C dL_law_527 ?_
  refine az_sarg (q := 3) C hS (by omega) (by omega) rfl dL_law_528 ?_
  refine az_aload_n C 0 dL_law_529 rfl ?_
  refine az_iload_n C 3 dL_law_530 rfl ?_
  refine az_iconst (v := 4) C dL_law_531 (by decide) ?_
  refine az_iadd C dL_law_532 ?_
  refine az_sarg (q := 4) C hS (by omega) (by omega) rfl dL_law_533 ?_
  refine az_aload_n C 0 dL_law_534 rfl ?_
  refine az_iload_n C 3 dL_law_535 rfl ?_
  refine az_iconst (v := 5) C dL_law_536 (by decide) ?_
  refine az_iadd C dL_law_537 ?_
  refine az_sarg (q := 5) C hS (by omega) (by omega) rfl dL_law_538 ?_
  refine az_cV (rest := []) (st2 := [.int r]) C [.int (xs (6 * m + 1)), .int (xs (6 * m + 2)), .int (xs (6 * m + 3)), .int (xs (6 * m + 4)), .int (xs (6 * m + 5))] (c_X11_feed C.hL G (xs (6 * m + 1)) (xs (6 * m + 2)) (xs (6 * m + 3)) (xs (6 * m + 4)) (xs (6 * m + 5)) M e1) (by decide) li_L_53 o0 (by decide) rfl rfl (Nat.le_of_ble_eq_true rfl) dL_law_539 rfl ?_
  refine az_aload_n C 2 dL_law_542 rfl ?_
  refine az_aload_n C 0 dL_law_543 rfl ?_
  refine az_iload_n C 3 dL_law_544 rfl ?_
  refine az_iconst (v := 1) C dL_law_545 (by decide) ?_
  refine az_iadd C dL_law_546 ?_
  refine az_sarg (q := 1) C hS (by omega) (by omega) rfl dL_law_547 ?_
  refine az_aload_n C 0 dL_law_548 rfl ?_
  refine az_iload_n C 3 dL_law_549 rfl ?_
  refine az_iconst (v := 2) C dL_law_550 (by decide) ?_
  refine az_iadd C dL_law_551 ?_
  refine az_sarg (q := 2) C hS (by omega) (by omega) rfl dL_law_552 ?_
  refine az_aload_n C 0 dL_law_553 rfl ?_
  refine az_iload_n C 3 dL_law_554 rfl ?_
  refine az_iconst (v := 3) C dL_law_555 (by decide) ?_
  refine az_iadd C dL_law_556 ?_
  refine az_sarg (q := 3) C hS (by omega) (by omega) rfl dL_law_557 ?_
  refine az_aload_n C 0 dL_law_558 rfl ?_
  refine az_iload_n C 3 dL_law_559 rfl ?_
  refine az_iconst (v := 4) C dL_law_560 (by decide) ?_
  refine az_iadd C dL_law_561 ?_
  refine az_sarg (q := 4) C hS (by omega) (by omega) rfl dL_law_562 ?_
  refine az_aload_n C 0 dL_law_563 rfl ?_
  refine az_iload_n C 3 dL_law_564 rfl ?_
  refine az_iconst (v := 5) C dL_law_565 (by decide) ?_
  refine az_iadd C dL_law_566 ?_
  refine az_sarg (q := 5) C hS (by omega) (by omega) rfl dL_law_567 ?_
  refine az_cV (rest := [.int r]) (st2 := [.int r, .int r]) C [.int (xs (6 * m + 1)), .int (xs (6 * m + 2)), .int (xs (6 * m + 3)), .int (xs (6 * m + 4)), .int (xs (6 * m + 5))] (c_X12_feed C.hL G (xs (6 * m + 1)) (xs (6 * m + 2)) (xs (6 * m + 3)) (xs (6 * m + 4)) (xs (6 * m + 5)) _ e2) (by decide) li_L_57 o40 (by decide) rfl rfl (Nat.le_of_ble_eq_true rfl) dL_law_568 rfl ?_
  refine az_icmp_eq C 1197 dL_law_571 (by decide) (fun _ => ?_) (fun c => absurd rfl c)
  exact lw_next hn C hI2 (by omega) (by omega)
set_option maxHeartbeats 4000000 in
set_option maxRecDepth 100000 in
theorem lc_end {Y : az_Y} {Q : State → Prop} {Inv : Nat → az_S × Nat → az_M → Prop} {G b L m k n : Nat} {xs : Nat → Int32} (hob : Ob_end Inv G) (hS : az_sc Y b L xs) (hR : Y.2.2.2.1.cells = 600000 ∧ Y.2.2.2.1.slots = 7302250) (hL : 6 * m + 6 ≤ L) (hL2 : L ≤ 3072) (hn : lw_H Y b Inv Q (m + 1)) {V : az_V} {M : az_M} (C : az_C (az_Yc Y k n) V code 4 RL ret 100) (hI : Inv m (az_z V) M) (hk : k ≤ 80 + 4 * m) (hn2 : n ≤ 40000 + 640 * m) : AW (az_Yc Y k n) V Q 4 M 576 [(0, .ref b), (1, .ref (az_ad V 0)), (2, .ref (az_ad V 40)), (3, .int (nI (6 * m)))] [] := by
  obtain ⟨r, M1, M2, e1, e2, hI2⟩ := hob m (az_z V) M (xs (6 * m + 1)) (by omega) hI
  have o0 := C.hL.at 0 (ci := 11) rfl
  have o40 := C.hL.at 40 (ci := 12) rfl
  refine az_aload_n C 1 dL_law_576 rfl ?_
  refine az_aload_n C 0 dL_law_577 rfl ?_
  refine az_iload_n C 3 dL_law_578 rfl ?_
  refine az_iconst (v := 1) C dL_law_579 (by decide) ?_
  refine az_iadd C dL_law_580 ?_
  refine az_sarg (q := 1) C hS (by omega) (by omega) rfl dL_law_581 ?_
  refine az_cV (rest := []) (st2 := [.int r]) C [.int (xs (6 * m + 1))] (c_X11_end C.hL (xs (6 * m + 1)) M e1) (by decide) li_L_58 o0 (by decide) rfl rfl (Nat.le_of_ble_eq_true rfl) dL_law_582 rfl ?_
  refine az_aload_n C 2 dL_law_585 rfl ?_
  refine az_aload_n C 0 dL_law_586 rfl ?_
  refine az_iload_n C 3 dL_law_587 rfl ?_
  refine az_iconst (v := 1) C dL_law_588 (by decide) ?_
  refine az_iadd C dL_law_589 ?_
  refine az_sarg (q := 1) C hS (by omega) (by omega) rfl dL_law_590 ?_
  refine az_cV (rest := [.int r]) (st2 := [.int r, .int r]) C [.int (xs (6 * m + 1))] (c_X12_end C.hL (xs (6 * m + 1)) _ e2) (by decide) li_L_61 o40 (by decide) rfl rfl (Nat.le_of_ble_eq_true rfl) dL_law_591 rfl ?_
  refine az_icmp_eq C 1197 dL_law_594 (by decide) (fun _ => ?_) (fun c => absurd rfl c)
  exact lw_next hn C hI2 (by omega) (by omega)
set_option maxHeartbeats 4000000 in
set_option maxRecDepth 100000 in
theorem lc_row {Y : az_Y} {Q : State → Prop} {Inv : Nat → az_S × Nat → az_M → Prop} {G b L m k n : Nat} {xs : Nat → Int32} (hob : Ob_row Inv G) (hS : az_sc Y b L xs) (hR : Y.2.2.2.1.cells = 600000 ∧ Y.2.2.2.1.slots = 7302250) (hL : 6 * m + 6 ≤ L) (hL2 : L ≤ 3072) (hn : lw_H Y b Inv Q (m + 1)) {V : az_V} {M : az_M} (C : az_C (az_Yc Y k n) V code 4 RL ret 100) (hI : Inv m (az_z V) M) (hk : k ≤ 80 + 4 * m) (hn2 : n ≤ 40000 + 640 * m) : AW (az_Yc Y k n) V Q 4 M 599 [(0, .ref b), (1, .ref (az_ad V 0)), (2, .ref (az_ad V 40)), (3, .int (nI (6 * m)))] [] := by
  obtain ⟨r, M1, M2, e1, e2, hI2⟩ := hob m (az_z V) M (by omega) hI
  have o0 := C.hL.at 0 (ci := 11) rfl
  have o40 := C.hL.at 40 (ci := 12) rfl
  refine az_aload_n C 1 dL_law_599 rfl ?_
  refine az_cV (rest := []) (st2 := [.int r]) C [] (c_X11_row C.hL G M e1) (by decide) li_L_62 o0 (by decide) rfl rfl (Nat.le_of_ble_eq_true rfl) dL_law_600 rfl ?_
  refine az_aload_n C 2 dL_law_603 rfl ?_
  refine az_cV (rest := [.int r]) (st2 := [.int r, .int r]) C [] (c_X12_row C.hL G _ e2) (by decide) li_L_66 o40 (by decide) rfl rfl (Nat.le_of_ble_eq_true rfl) dL_law_604 rfl ?_
  refine az_icmp_eq C 1197 dL_law_607 (by decide) (fun _ => ?_) (fun c => absurd rfl c)
  exact lw_next hn C hI2 (by omega) (by omega)
set_option maxHeartbeats 4000000 in
set_option maxRecDepth 100000 in
theorem lc_chips {Y : az_Y} {Q : State → Prop} {Inv : Nat → az_S × Nat → az_M → Prop} {G b L m k n : Nat} {xs : Nat → Int32} (hob : Ob_chips Inv G) (hS : az_sc Y b L xs) (hR : Y.2.2.2.1.cells = 600000 ∧ Y.2.2.2.1.slots = 7302250) (hL : 6 * m + 6 ≤ L) (hL2 : L ≤ 3072) (hn : lw_H Y b Inv Q (m + 1)) {V : az_V} {M : az_M} (C : az_C (az_Yc Y k n) V code 4 RL ret 100) (hI : Inv m (az_z V) M) (hk : k ≤ 80 + 4 * m) (hn2 : n ≤ 40000 + 640 * m) : AW (az_Yc Y k n) V Q 4 M 612 [(0, .ref b), (1, .ref (az_ad V 0)), (2, .ref (az_ad V 40)), (3, .int (nI (6 * m)))] [] := by
  obtain ⟨r, M2, e1, e2, hI2⟩ := hob m (az_z V) M (by omega) hI
  have o0 := C.hL.at 0 (ci := 11) rfl
  have o40 := C.hL.at 40 (ci := 12) rfl
  refine az_aload_n C 1 dL_law_612 rfl ?_
  refine az_cV (rest := []) (st2 := [.int r]) C [] (c_X11_chips C.hL M e1) (by decide) li_L_67 o0 (by decide) rfl rfl (Nat.le_of_ble_eq_true rfl) dL_law_613 rfl ?_
  refine az_aload_n C 2 dL_law_616 rfl ?_
  refine az_cV (rest := [.int r]) (st2 := [.int r, .int r]) C [] (c_X12_chips C.hL _ e2) (by decide) li_L_70 o40 (by decide) rfl rfl (Nat.le_of_ble_eq_true rfl) dL_law_617 rfl ?_
  refine az_icmp_eq C 1197 dL_law_620 (by decide) (fun _ => ?_) (fun c => absurd rfl c)
  exact lw_next hn C hI2 (by omega) (by omega)
set_option maxHeartbeats 4000000 in
set_option maxRecDepth 100000 in
theorem lc_law {Y : az_Y} {Q : State → Prop} {Inv : Nat → az_S × Nat → az_M → Prop} {G b L m k n : Nat} {xs : Nat → Int32} (hob : Ob_law Inv G) (hS : az_sc Y b L xs) (hR : Y.2.2.2.1.cells = 600000 ∧ Y.2.2.2.1.slots = 7302250) (hL : 6 * m + 6 ≤ L) (hL2 : L ≤ 3072) (hn : lw_H Y b Inv Q (m + 1)) {V : az_V} {M : az_M} (C : az_C (az_Yc Y k n) V code 4 RL ret 100) (hI : Inv m (az_z V) M) (hk : k ≤ 80 + 4 * m) (hn2 : n ≤ 40000 + 640 * m) : AW (az_Yc Y k n) V Q 4 M 625 [(0, .ref b), (1, .ref (az_ad V 0)), (2, .ref (az_ad V 40)), (3, .int (nI (6 * m)))] [] := by
  obtain ⟨hro, r, M1, ks, M2, e1, e2, hI2⟩ := hob m (az_z V) M (by omega) hI
  have o0 := C.hL.at 0 (ci := 11) rfl
  have o40 := C.hL.at 40 (ci := 12) rfl
  refine az_aload_n C 1 dL_law_625 rfl ?_
  refine az_cVX (rest := []) C [] (c_X11_law G M hro e1) (by decide) li_L_71 o0 (by decide) rfl rfl (Nat.le_of_ble_eq_true rfl) dL_law_626 (by show k + 3 ≤ Y.2.2.2.1.cells; rw [hR.1]; omega) (by show n + 476 ≤ Y.2.2.2.1.slots; rw [hR.2]; omega) (fun v V2 M3 hv => ?_)
  obtain ⟨hv1, hv2, hv3⟩ := hv
  rw [hv1, hv2]
  have hz := hv3.z
  have ea := hv3.ad C.hL
  have C2 : az_C (az_Yc Y (k + 3) (n + 476)) V2 code 4 RL ret 100 := (C.ext hv3.e1 hv3.e2 hv3.e3 (hv3.L C.hL) (by show k + 3 ≤ Y.2.2.2.1.cells; rw [hR.1]; omega) (by show n + 476 ≤ Y.2.2.2.1.slots; rw [hR.2]; omega))
  refine az_eqlv (lv' := [(0, .ref b), (1, .ref (az_ad V2 0)), (2, .ref (az_ad V2 40)), (3, .int (nI (6 * m)))]) (by rw [ea 0 (by decide), ea 40 (by decide)]) ?_
  refine az_eqst (st' := [.int r]) rfl ?_
  have p40 := C2.hL.at 40 (ci := 12) rfl
  refine az_aload_n C2 2 dL_law_629 rfl ?_
  refine az_cV (rest := [.int r]) (st2 := [.int r, .int r]) C2 [] (c_X12_law C2.hL G _ e2) (by decide) li_L_74 p40 (by decide) rfl rfl (Nat.le_of_ble_eq_true rfl) dL_law_630 rfl ?_
  refine az_icmp_eq C2 1197 dL_law_633 (by decide) (fun _ => ?_) (fun c => absurd rfl c)
  exact lw_next hn C2 (by rw [hz]; exact hI2) (by omega) (by omega)
set_option maxHeartbeats 4000000 in
set_option maxRecDepth 100000 in
theorem lc_orders {Y : az_Y} {Q : State → Prop} {Inv : Nat → az_S × Nat → az_M → Prop} {G b L m k n : Nat} {xs : Nat → Int32} (hob : Ob_orders Inv G) (hS : az_sc Y b L xs) (hR : Y.2.2.2.1.cells = 600000 ∧ Y.2.2.2.1.slots = 7302250) (hL : 6 * m + 6 ≤ L) (hL2 : L ≤ 3072) (hn : lw_H Y b Inv Q (m + 1)) {V : az_V} {M : az_M} (C : az_C (az_Yc Y k n) V code 4 RL ret 100) (hI : Inv m (az_z V) M) (hk : k ≤ 80 + 4 * m) (hn2 : n ≤ 40000 + 640 * m) : AW (az_Yc Y k n) V Q 4 M 638 [(0, .ref b), (1, .ref (az_ad V 0)), (2, .ref (az_ad V 40)), (3, .int (nI (6 * m)))] [] := by
  obtain ⟨r, M1, M2, e1, e2, hI2⟩ := hob m (az_z V) M (by omega) hI
  have o0 := C.hL.at 0 (ci := 11) rfl
  have o40 := C.hL.at 40 (ci := 12) rfl
  refine az_aload_n C 1 dL_law_638 rfl ?_
  refine az_cV (rest := []) (st2 := [.int r]) C [] (c_X11_orders C.hL G M e1) (by decide) li_L_75 o0 (by decide) rfl rfl (Nat.le_of_ble_eq_true rfl) dL_law_639 rfl ?_
  refine az_aload_n C 2 dL_law_642 rfl ?_
  refine az_cV (rest := [.int r]) (st2 := [.int r, .int r]) C [] (c_X12_orders C.hL G _ e2) (by decide) li_L_78 o40 (by decide) rfl rfl (Nat.le_of_ble_eq_true rfl) dL_law_643 rfl ?_
  refine az_icmp_eq C 1197 dL_law_646 (by decide) (fun _ => ?_) (fun c => absurd rfl c)
  exact lw_next hn C hI2 (by omega) (by omega)
set_option maxHeartbeats 4000000 in
set_option maxRecDepth 100000 in
theorem lc_fault {Y : az_Y} {Q : State → Prop} {Inv : Nat → az_S × Nat → az_M → Prop} {G b L m k n : Nat} {xs : Nat → Int32} (hob : Ob_fault Inv G) (hS : az_sc Y b L xs) (hR : Y.2.2.2.1.cells = 600000 ∧ Y.2.2.2.1.slots = 7302250) (hL : 6 * m + 6 ≤ L) (hL2 : L ≤ 3072) (hn : lw_H Y b Inv Q (m + 1)) {V : az_V} {M : az_M} (C : az_C (az_Yc Y k n) V code 4 RL ret 100) (hI : Inv m (az_z V) M) (hk : k ≤ 80 + 4 * m) (hn2 : n ≤ 40000 + 640 * m) : AW (az_Yc Y k n) V Q 4 M 651 [(0, .ref b), (1, .ref (az_ad V 0)), (2, .ref (az_ad V 40)), (3, .int (nI (6 * m)))] [] := by
  obtain ⟨r, M2, e1, e2, hI2⟩ := hob m (az_z V) M (by omega) hI
  have o0 := C.hL.at 0 (ci := 11) rfl
  have o40 := C.hL.at 40 (ci := 12) rfl
  refine az_aload_n C 1 dL_law_651 rfl ?_
  refine az_cV (rest := []) (st2 := [.int r]) C [] (c_X11_fault C.hL M e1) (by decide) li_L_79 o0 (by decide) rfl rfl (Nat.le_of_ble_eq_true rfl) dL_law_652 rfl ?_
  refine az_aload_n C 2 dL_law_655 rfl ?_
  refine az_cV (rest := [.int r]) (st2 := [.int r, .int r]) C [] (c_X12_fault C.hL _ e2) (by decide) li_L_82 o40 (by decide) rfl rfl (Nat.le_of_ble_eq_true rfl) dL_law_656 rfl ?_
  refine az_icmp_eq C 1197 dL_law_659 (by decide) (fun _ => ?_) (fun c => absurd rfl c)
  exact lw_next hn C hI2 (by omega) (by omega)
set_option maxHeartbeats 4000000 in
set_option maxRecDepth 100000 in
theorem lc_stopped {Y : az_Y} {Q : State → Prop} {Inv : Nat → az_S × Nat → az_M → Prop} {G b L m k n : Nat} {xs : Nat → Int32} (hob : Ob_stopped Inv G) (hS : az_sc Y b L xs) (hR : Y.2.2.2.1.cells = 600000 ∧ Y.2.2.2.1.slots = 7302250) (hL : 6 * m + 6 ≤ L) (hL2 : L ≤ 3072) (hn : lw_H Y b Inv Q (m + 1)) {V : az_V} {M : az_M} (C : az_C (az_Yc Y k n) V code 4 RL ret 100) (hI : Inv m (az_z V) M) (hk : k ≤ 80 + 4 * m) (hn2 : n ≤ 40000 + 640 * m) : AW (az_Yc Y k n) V Q 4 M 664 [(0, .ref b), (1, .ref (az_ad V 0)), (2, .ref (az_ad V 40)), (3, .int (nI (6 * m)))] [] := by
  obtain ⟨r, M2, e1, e2, hI2⟩ := hob m (az_z V) M (by omega) hI
  have o0 := C.hL.at 0 (ci := 11) rfl
  have o40 := C.hL.at 40 (ci := 12) rfl
  refine az_aload_n C 1 dL_law_664 rfl ?_
  refine az_cV (rest := []) (st2 := [.int r]) C [] (c_X11_stopped C.hL M e1) (by decide) li_L_83 o0 (by decide) rfl rfl (Nat.le_of_ble_eq_true rfl) dL_law_665 rfl ?_
  refine az_aload_n C 2 dL_law_668 rfl ?_
  refine az_cV (rest := [.int r]) (st2 := [.int r, .int r]) C [] (c_X12_stopped C.hL _ e2) (by decide) li_L_86 o40 (by decide) rfl rfl (Nat.le_of_ble_eq_true rfl) dL_law_669 rfl ?_
  refine az_icmp_eq C 1197 dL_law_672 (by decide) (fun _ => ?_) (fun c => absurd rfl c)
  exact lw_next hn C hI2 (by omega) (by omega)
set_option maxHeartbeats 4000000 in
set_option maxRecDepth 100000 in
theorem lc_force {Y : az_Y} {Q : State → Prop} {Inv : Nat → az_S × Nat → az_M → Prop} {G b L m k n : Nat} {xs : Nat → Int32} (hob : Ob_force Inv G) (hS : az_sc Y b L xs) (hR : Y.2.2.2.1.cells = 600000 ∧ Y.2.2.2.1.slots = 7302250) (hL : 6 * m + 6 ≤ L) (hL2 : L ≤ 3072) (hn : lw_H Y b Inv Q (m + 1)) {V : az_V} {M : az_M} (C : az_C (az_Yc Y k n) V code 4 RL ret 100) (hI : Inv m (az_z V) M) (hk : k ≤ 80 + 4 * m) (hn2 : n ≤ 40000 + 640 * m) : AW (az_Yc Y k n) V Q 4 M 677 [(0, .ref b), (1, .ref (az_ad V 0)), (2, .ref (az_ad V 40)), (3, .int (nI (6 * m)))] [] := by
  obtain ⟨r, M1, M2, e1, e2, hI2⟩ := hob m (az_z V) M (xs (6 * m + 1)) (by omega) hI
  have o0 := C.hL.at 0 (ci := 11) rfl
  have o40 := C.hL.at 40 (ci := 12) rfl
  refine az_aload_n C 1 dL_law_677 rfl ?_
  refine az_aload_n C 0 dL_law_678 rfl ?_
  refine az_iload_n C 3 dL_law_679 rfl ?_
  refine az_iconst (v := 1) C dL_law_680 (by decide) ?_
  refine az_iadd C dL_law_681 ?_
  refine az_sarg (q := 1) C hS (by omega) (by omega) rfl dL_law_682 ?_
  refine az_cV (rest := []) (st2 := [.int r]) C [.int (xs (6 * m + 1))] (c_X11_force C.hL (xs (6 * m + 1)) M e1) (by decide) li_L_87 o0 (by decide) rfl rfl (Nat.le_of_ble_eq_true rfl) dL_law_683 rfl ?_
  refine az_aload_n C 2 dL_law_686 rfl ?_
  refine az_aload_n C 0 dL_law_687 rfl ?_
  refine az_iload_n C 3 dL_law_688 rfl ?_
  refine az_iconst (v := 1) C dL_law_689 (by decide) ?_
  refine az_iadd C dL_law_690 ?_
  refine az_sarg (q := 1) C hS (by omega) (by omega) rfl dL_law_691 ?_
  refine az_cV (rest := [.int r]) (st2 := [.int r, .int r]) C [.int (xs (6 * m + 1))] (c_X12_force C.hL (xs (6 * m + 1)) _ e2) (by decide) li_L_90 o40 (by decide) rfl rfl (Nat.le_of_ble_eq_true rfl) dL_law_692 rfl ?_
  refine az_icmp_eq C 1197 dL_law_695 (by decide) (fun _ => ?_) (fun c => absurd rfl c)
  exact lw_next hn C hI2 (by omega) (by omega)
set_option maxHeartbeats 4000000 in
set_option maxRecDepth 100000 in
theorem lc_barred {Y : az_Y} {Q : State → Prop} {Inv : Nat → az_S × Nat → az_M → Prop} {G b L m k n : Nat} {xs : Nat → Int32} (hob : Ob_barred Inv G) (hS : az_sc Y b L xs) (hR : Y.2.2.2.1.cells = 600000 ∧ Y.2.2.2.1.slots = 7302250) (hL : 6 * m + 6 ≤ L) (hL2 : L ≤ 3072) (hn : lw_H Y b Inv Q (m + 1)) {V : az_V} {M : az_M} (C : az_C (az_Yc Y k n) V code 4 RL ret 100) (hI : Inv m (az_z V) M) (hk : k ≤ 80 + 4 * m) (hn2 : n ≤ 40000 + 640 * m) : AW (az_Yc Y k n) V Q 4 M 700 [(0, .ref b), (1, .ref (az_ad V 0)), (2, .ref (az_ad V 40)), (3, .int (nI (6 * m)))] [] := by
  obtain ⟨r, M1, M2, e1, e2, hI2⟩ := hob m (az_z V) M (xs (6 * m + 1)) (xs (6 * m + 2)) (by omega) hI
  have o0 := C.hL.at 0 (ci := 11) rfl
  have o40 := C.hL.at 40 (ci := 12) rfl
  refine az_aload_n C 1 dL_law_700 rfl ?_
  refine az_aload_n C 0 dL_law_701 rfl ?_
  refine az_iload_n C 3 dL_law_702 rfl ?_
  refine az_iconst (v := 1) C dL_law_703 (by decide) ?_
  refine az_iadd C dL_law_704 ?_
  refine az_sarg (q := 1) C hS (by omega) (by omega) rfl dL_law_705 ?_
  refine az_aload_n C 0 dL_law_706 rfl ?_
  refine az_iload_n C 3 dL_law_707 rfl ?_
  refine az_iconst (v := 2) C dL_law_708 (by decide) ?_
  refine az_iadd C dL_law_709 ?_
  refine az_sarg (q := 2) C hS (by omega) (by omega) rfl dL_law_710 ?_
  refine az_cV (rest := []) (st2 := [.int r]) C [.int (xs (6 * m + 1)), .int (xs (6 * m + 2))] (c_X11_barred C.hL G (xs (6 * m + 1)) (xs (6 * m + 2)) M e1) (by decide) li_L_91 o0 (by decide) rfl rfl (Nat.le_of_ble_eq_true rfl) dL_law_711 rfl ?_
  refine az_aload_n C 2 dL_law_714 rfl ?_
  refine az_aload_n C 0 dL_law_715 rfl ?_
  refine az_iload_n C 3 dL_law_716 rfl ?_
  refine az_iconst (v := 1) C dL_law_717 (by decide) ?_
  refine az_iadd C dL_law_718 ?_
  refine az_sarg (q := 1) C hS (by omega) (by omega) rfl dL_law_719 ?_
  refine az_aload_n C 0 dL_law_720 rfl ?_
  refine az_iload_n C 3 dL_law_721 rfl ?_
  refine az_iconst (v := 2) C dL_law_722 (by decide) ?_
  refine az_iadd C dL_law_723 ?_
  refine az_sarg (q := 2) C hS (by omega) (by omega) rfl dL_law_724 ?_
  refine az_cV (rest := [.int r]) (st2 := [.int r, .int r]) C [.int (xs (6 * m + 1)), .int (xs (6 * m + 2))] (c_X12_barred C.hL G (xs (6 * m + 1)) (xs (6 * m + 2)) _ e2) (by decide) li_L_94 o40 (by decide) rfl rfl (Nat.le_of_ble_eq_true rfl) dL_law_725 rfl ?_
  refine az_icmp_eq C 1197 dL_law_728 (by decide) (fun _ => ?_) (fun c => absurd rfl c)
  exact lw_next hn C hI2 (by omega) (by omega)
set_option maxHeartbeats 4000000 in
set_option maxRecDepth 100000 in
theorem lc_fire {Y : az_Y} {Q : State → Prop} {Inv : Nat → az_S × Nat → az_M → Prop} {G b L m k n : Nat} {xs : Nat → Int32} (hob : Ob_fire Inv G) (hS : az_sc Y b L xs) (hR : Y.2.2.2.1.cells = 600000 ∧ Y.2.2.2.1.slots = 7302250) (hL : 6 * m + 6 ≤ L) (hL2 : L ≤ 3072) (hn : lw_H Y b Inv Q (m + 1)) {V : az_V} {M : az_M} (C : az_C (az_Yc Y k n) V code 4 RL ret 100) (hI : Inv m (az_z V) M) (hk : k ≤ 80 + 4 * m) (hn2 : n ≤ 40000 + 640 * m) : AW (az_Yc Y k n) V Q 4 M 733 [(0, .ref b), (1, .ref (az_ad V 0)), (2, .ref (az_ad V 40)), (3, .int (nI (6 * m)))] [] := by
  obtain ⟨r, M1, M2, e1, e2, hI2⟩ := hob m (az_z V) M (xs (6 * m + 1)) (xs (6 * m + 2)) (by omega) hI
  have o0 := C.hL.at 0 (ci := 11) rfl
  have o40 := C.hL.at 40 (ci := 12) rfl
  refine az_aload_n C 1 dL_law_733 rfl ?_
  refine az_aload_n C 0 dL_law_734 rfl ?_
  refine az_iload_n C 3 dL_law_735 rfl ?_
  refine az_iconst (v := 1) C dL_law_736 (by decide) ?_
  refine az_iadd C dL_law_737 ?_
  refine az_sarg (q := 1) C hS (by omega) (by omega) rfl dL_law_738 ?_
  refine az_aload_n C 0 dL_law_739 rfl ?_
  refine az_iload_n C 3 dL_law_740 rfl ?_
  refine az_iconst (v := 2) C dL_law_741 (by decide) ?_
  refine az_iadd C dL_law_742 ?_
  refine az_sarg (q := 2) C hS (by omega) (by omega) rfl dL_law_743 ?_
  refine az_cV (rest := []) (st2 := [.int r]) C [.int (xs (6 * m + 1)), .int (xs (6 * m + 2))] (c_X11_fire C.hL G (xs (6 * m + 1)) (xs (6 * m + 2)) M e1) (by decide) li_L_95 o0 (by decide) rfl rfl (Nat.le_of_ble_eq_true rfl) dL_law_744 rfl ?_
  refine az_aload_n C 2 dL_law_747 rfl ?_
  refine az_aload_n C 0 dL_law_748 rfl ?_
  refine az_iload_n C 3 dL_law_749 rfl ?_
  refine az_iconst (v := 1) C dL_law_750 (by decide) ?_
  refine az_iadd C dL_law_751 ?_
  refine az_sarg (q := 1) C hS (by omega) (by omega) rfl dL_law_752 ?_
  refine az_aload_n C 0 dL_law_753 rfl ?_
  refine az_iload_n C 3 dL_law_754 rfl ?_
  refine az_iconst (v := 2) C dL_law_755 (by decide) ?_
  refine az_iadd C dL_law_756 ?_
  refine az_sarg (q := 2) C hS (by omega) (by omega) rfl dL_law_757 ?_
  refine az_cV (rest := [.int r]) (st2 := [.int r, .int r]) C [.int (xs (6 * m + 1)), .int (xs (6 * m + 2))] (c_X12_fire C.hL G (xs (6 * m + 1)) (xs (6 * m + 2)) _ e2) (by decide) li_L_98 o40 (by decide) rfl rfl (Nat.le_of_ble_eq_true rfl) dL_law_758 rfl ?_
  refine az_icmp_eq C 1197 dL_law_761 (by decide) (fun _ => ?_) (fun c => absurd rfl c)
  exact lw_next hn C hI2 (by omega) (by omega)
set_option maxHeartbeats 4000000 in
set_option maxRecDepth 100000 in
theorem lc_duel {Y : az_Y} {Q : State → Prop} {Inv : Nat → az_S × Nat → az_M → Prop} {G b L m k n : Nat} {xs : Nat → Int32} (hob : Ob_duel Inv G) (hS : az_sc Y b L xs) (hR : Y.2.2.2.1.cells = 600000 ∧ Y.2.2.2.1.slots = 7302250) (hL : 6 * m + 6 ≤ L) (hL2 : L ≤ 3072) (hn : lw_H Y b Inv Q (m + 1)) {V : az_V} {M : az_M} (C : az_C (az_Yc Y k n) V code 4 RL ret 100) (hI : Inv m (az_z V) M) (hk : k ≤ 80 + 4 * m) (hn2 : n ≤ 40000 + 640 * m) : AW (az_Yc Y k n) V Q 4 M 766 [(0, .ref b), (1, .ref (az_ad V 0)), (2, .ref (az_ad V 40)), (3, .int (nI (6 * m)))] [] := by
  obtain ⟨r, M1, M2, e1, e2, hI2⟩ := hob m (az_z V) M (xs (6 * m + 1)) (xs (6 * m + 2)) (by omega) hI
  have o0 := C.hL.at 0 (ci := 11) rfl
  have o40 := C.hL.at 40 (ci := 12) rfl
  refine az_aload_n C 1 dL_law_766 rfl ?_
  refine az_aload_n C 0 dL_law_767 rfl ?_
  refine az_iload_n C 3 dL_law_768 rfl ?_
  refine az_iconst (v := 1) C dL_law_769 (by decide) ?_
  refine az_iadd C dL_law_770 ?_
  refine az_sarg (q := 1) C hS (by omega) (by omega) rfl dL_law_771 ?_
  refine az_aload_n C 0 dL_law_772 rfl ?_
  refine az_iload_n C 3 dL_law_773 rfl ?_
  refine az_iconst (v := 2) C dL_law_774 (by decide) ?_
  refine az_iadd C dL_law_775 ?_
  refine az_sarg (q := 2) C hS (by omega) (by omega) rfl dL_law_776 ?_
  refine az_cV (rest := []) (st2 := [.int r]) C [.int (xs (6 * m + 1)), .int (xs (6 * m + 2))] (c_X11_duel C.hL G (xs (6 * m + 1)) (xs (6 * m + 2)) M e1) (by decide) li_L_99 o0 (by decide) rfl rfl (Nat.le_of_ble_eq_true rfl) dL_law_777 rfl ?_
  refine az_aload_n C 2 dL_law_780 rfl ?_
  refine az_aload_n C 0 dL_law_781 rfl ?_
  refine az_iload_n C 3 dL_law_782 rfl ?_
  refine az_iconst (v := 1) C dL_law_783 (by decide) ?_
  refine az_iadd C dL_law_784 ?_
  refine az_sarg (q := 1) C hS (by omega) (by omega) rfl dL_law_785 ?_
  refine az_aload_n C 0 dL_law_786 rfl ?_
  refine az_iload_n C 3 dL_law_787 rfl ?_
  refine az_iconst (v := 2) C dL_law_788 (by decide) ?_
  refine az_iadd C dL_law_789 ?_
  refine az_sarg (q := 2) C hS (by omega) (by omega) rfl dL_law_790 ?_
  refine az_cV (rest := [.int r]) (st2 := [.int r, .int r]) C [.int (xs (6 * m + 1)), .int (xs (6 * m + 2))] (c_X12_duel C.hL G (xs (6 * m + 1)) (xs (6 * m + 2)) _ e2) (by decide) li_L_102 o40 (by decide) rfl rfl (Nat.le_of_ble_eq_true rfl) dL_law_791 rfl ?_
  refine az_icmp_eq C 1197 dL_law_794 (by decide) (fun _ => ?_) (fun c => absurd rfl c)
  exact lw_next hn C hI2 (by omega) (by omega)
set_option maxHeartbeats 4000000 in
set_option maxRecDepth 100000 in
theorem lc_rest {Y : az_Y} {Q : State → Prop} {Inv : Nat → az_S × Nat → az_M → Prop} {G b L m k n : Nat} {xs : Nat → Int32} (hob : Ob_rest Inv G) (hS : az_sc Y b L xs) (hR : Y.2.2.2.1.cells = 600000 ∧ Y.2.2.2.1.slots = 7302250) (hL : 6 * m + 6 ≤ L) (hL2 : L ≤ 3072) (hn : lw_H Y b Inv Q (m + 1)) {V : az_V} {M : az_M} (C : az_C (az_Yc Y k n) V code 4 RL ret 100) (hI : Inv m (az_z V) M) (hk : k ≤ 80 + 4 * m) (hn2 : n ≤ 40000 + 640 * m) : AW (az_Yc Y k n) V Q 4 M 799 [(0, .ref b), (1, .ref (az_ad V 0)), (2, .ref (az_ad V 40)), (3, .int (nI (6 * m)))] [] := by
  obtain ⟨r, M1, M2, e1, e2, hI2⟩ := hob m (az_z V) M (xs (6 * m + 1)) (by omega) hI
  have o0 := C.hL.at 0 (ci := 11) rfl
  have o40 := C.hL.at 40 (ci := 12) rfl
  refine az_aload_n C 1 dL_law_799 rfl ?_
  refine az_aload_n C 0 dL_law_800 rfl ?_
  refine az_iload_n C 3 dL_law_801 rfl ?_
  refine az_iconst (v := 1) C dL_law_802 (by decide) ?_
  refine az_iadd C dL_law_803 ?_
  refine az_sarg (q := 1) C hS (by omega) (by omega) rfl dL_law_804 ?_
  refine az_cV (rest := []) (st2 := [.int r]) C [.int (xs (6 * m + 1))] (c_X11_rest C.hL (xs (6 * m + 1)) M e1) (by decide) li_L_103 o0 (by decide) rfl rfl (Nat.le_of_ble_eq_true rfl) dL_law_805 rfl ?_
  refine az_aload_n C 2 dL_law_808 rfl ?_
  refine az_aload_n C 0 dL_law_809 rfl ?_
  refine az_iload_n C 3 dL_law_810 rfl ?_
  refine az_iconst (v := 1) C dL_law_811 (by decide) ?_
  refine az_iadd C dL_law_812 ?_
  refine az_sarg (q := 1) C hS (by omega) (by omega) rfl dL_law_813 ?_
  refine az_cV (rest := [.int r]) (st2 := [.int r, .int r]) C [.int (xs (6 * m + 1))] (c_X12_rest C.hL G (xs (6 * m + 1)) _ e2) (by decide) li_L_106 o40 (by decide) rfl rfl (Nat.le_of_ble_eq_true rfl) dL_law_814 rfl ?_
  refine az_icmp_eq C 1197 dL_law_817 (by decide) (fun _ => ?_) (fun c => absurd rfl c)
  exact lw_next hn C hI2 (by omega) (by omega)
set_option maxHeartbeats 4000000 in
set_option maxRecDepth 100000 in
theorem lc_undo {Y : az_Y} {Q : State → Prop} {Inv : Nat → az_S × Nat → az_M → Prop} {G b L m k n : Nat} {xs : Nat → Int32} (hob : Ob_undo Inv G) (hS : az_sc Y b L xs) (hR : Y.2.2.2.1.cells = 600000 ∧ Y.2.2.2.1.slots = 7302250) (hL : 6 * m + 6 ≤ L) (hL2 : L ≤ 3072) (hn : lw_H Y b Inv Q (m + 1)) {V : az_V} {M : az_M} (C : az_C (az_Yc Y k n) V code 4 RL ret 100) (hI : Inv m (az_z V) M) (hk : k ≤ 80 + 4 * m) (hn2 : n ≤ 40000 + 640 * m) : AW (az_Yc Y k n) V Q 4 M 822 [(0, .ref b), (1, .ref (az_ad V 0)), (2, .ref (az_ad V 40)), (3, .int (nI (6 * m)))] [] := by
  obtain ⟨r, M1, M2, e1, e2, hI2⟩ := hob m (az_z V) M (by omega) hI
  have o0 := C.hL.at 0 (ci := 11) rfl
  have o40 := C.hL.at 40 (ci := 12) rfl
  refine az_aload_n C 1 dL_law_822 rfl ?_
  refine az_cV (rest := []) (st2 := [.int r]) C [] (c_X11_undo C.hL M e1) (by decide) li_L_107 o0 (by decide) rfl rfl (Nat.le_of_ble_eq_true rfl) dL_law_823 rfl ?_
  refine az_aload_n C 2 dL_law_826 rfl ?_
  refine az_cV (rest := [.int r]) (st2 := [.int r, .int r]) C [] (c_X12_undo C.hL G _ e2) (by decide) li_L_110 o40 (by decide) rfl rfl (Nat.le_of_ble_eq_true rfl) dL_law_827 rfl ?_
  refine az_icmp_eq C 1197 dL_law_830 (by decide) (fun _ => ?_) (fun c => absurd rfl c)
  exact lw_next hn C hI2 (by omega) (by omega)
set_option maxHeartbeats 4000000 in
set_option maxRecDepth 100000 in
theorem lc_log {Y : az_Y} {Q : State → Prop} {Inv : Nat → az_S × Nat → az_M → Prop} {G b L m k n : Nat} {xs : Nat → Int32} (hob : Ob_log Inv G) (hS : az_sc Y b L xs) (hR : Y.2.2.2.1.cells = 600000 ∧ Y.2.2.2.1.slots = 7302250) (hL : 6 * m + 6 ≤ L) (hL2 : L ≤ 3072) (hn : lw_H Y b Inv Q (m + 1)) {V : az_V} {M : az_M} (C : az_C (az_Yc Y k n) V code 4 RL ret 100) (hI : Inv m (az_z V) M) (hk : k ≤ 80 + 4 * m) (hn2 : n ≤ 40000 + 640 * m) : AW (az_Yc Y k n) V Q 4 M 835 [(0, .ref b), (1, .ref (az_ad V 0)), (2, .ref (az_ad V 40)), (3, .int (nI (6 * m)))] [] := by
  obtain ⟨r, M2, e1, e2, hI2⟩ := hob m (az_z V) M (xs (6 * m + 1)) (by omega) hI
  have o0 := C.hL.at 0 (ci := 11) rfl
  have o40 := C.hL.at 40 (ci := 12) rfl
  refine az_aload_n C 1 dL_law_835 rfl ?_
  refine az_aload_n C 0 dL_law_836 rfl ?_
  refine az_iload_n C 3 dL_law_837 rfl ?_
  refine az_iconst (v := 1) C dL_law_838 (by decide) ?_
  refine az_iadd C dL_law_839 ?_
  refine az_sarg (q := 1) C hS (by omega) (by omega) rfl dL_law_840 ?_
  refine az_cV (rest := []) (st2 := [.int r]) C [.int (xs (6 * m + 1))] (c_X11_log C.hL (xs (6 * m + 1)) M e1) (by decide) li_L_111 o0 (by decide) rfl rfl (Nat.le_of_ble_eq_true rfl) dL_law_841 rfl ?_
  refine az_aload_n C 2 dL_law_844 rfl ?_
  refine az_aload_n C 0 dL_law_845 rfl ?_
  refine az_iload_n C 3 dL_law_846 rfl ?_
  refine az_iconst (v := 1) C dL_law_847 (by decide) ?_
  refine az_iadd C dL_law_848 ?_
  refine az_sarg (q := 1) C hS (by omega) (by omega) rfl dL_law_849 ?_
  refine az_cV (rest := [.int r]) (st2 := [.int r, .int r]) C [.int (xs (6 * m + 1))] (c_X12_log C.hL (xs (6 * m + 1)) _ e2) (by decide) li_L_114 o40 (by decide) rfl rfl (Nat.le_of_ble_eq_true rfl) dL_law_850 rfl ?_
  refine az_icmp_eq C 1197 dL_law_853 (by decide) (fun _ => ?_) (fun c => absurd rfl c)
  exact lw_next hn C hI2 (by omega) (by omega)
set_option maxHeartbeats 4000000 in
set_option maxRecDepth 100000 in
theorem lc_odds {Y : az_Y} {Q : State → Prop} {Inv : Nat → az_S × Nat → az_M → Prop} {G b L m k n : Nat} {xs : Nat → Int32} (hob : Ob_odds Inv G) (hS : az_sc Y b L xs) (hR : Y.2.2.2.1.cells = 600000 ∧ Y.2.2.2.1.slots = 7302250) (hL : 6 * m + 6 ≤ L) (hL2 : L ≤ 3072) (hn : lw_H Y b Inv Q (m + 1)) {V : az_V} {M : az_M} (C : az_C (az_Yc Y k n) V code 4 RL ret 100) (hI : Inv m (az_z V) M) (hk : k ≤ 80 + 4 * m) (hn2 : n ≤ 40000 + 640 * m) : AW (az_Yc Y k n) V Q 4 M 858 [(0, .ref b), (1, .ref (az_ad V 0)), (2, .ref (az_ad V 40)), (3, .int (nI (6 * m)))] [] := by
  obtain ⟨r, M1, M2, e1, e2, hI2⟩ := hob m (az_z V) M (xs (6 * m + 1)) (xs (6 * m + 2)) (by omega) hI
  have o0 := C.hL.at 0 (ci := 11) rfl
  have o40 := C.hL.at 40 (ci := 12) rfl
  refine az_aload_n C 1 dL_law_858 rfl ?_
  refine az_aload_n C 0 dL_law_859 rfl ?_
  refine az_iload_n C 3 dL_law_860 rfl ?_
  refine az_iconst (v := 1) C dL_law_861 (by decide) ?_
  refine az_iadd C dL_law_862 ?_
  refine az_sarg (q := 1) C hS (by omega) (by omega) rfl dL_law_863 ?_
  refine az_aload_n C 0 dL_law_864 rfl ?_
  refine az_iload_n C 3 dL_law_865 rfl ?_
  refine az_iconst (v := 2) C dL_law_866 (by decide) ?_
  refine az_iadd C dL_law_867 ?_
  refine az_sarg (q := 2) C hS (by omega) (by omega) rfl dL_law_868 ?_
  refine az_cV (rest := []) (st2 := [.int r]) C [.int (xs (6 * m + 1)), .int (xs (6 * m + 2))] (c_X11_odds C.hL G (xs (6 * m + 1)) (xs (6 * m + 2)) M e1) (by decide) li_L_115 o0 (by decide) rfl rfl (Nat.le_of_ble_eq_true rfl) dL_law_869 rfl ?_
  refine az_aload_n C 2 dL_law_872 rfl ?_
  refine az_aload_n C 0 dL_law_873 rfl ?_
  refine az_iload_n C 3 dL_law_874 rfl ?_
  refine az_iconst (v := 1) C dL_law_875 (by decide) ?_
  refine az_iadd C dL_law_876 ?_
  refine az_sarg (q := 1) C hS (by omega) (by omega) rfl dL_law_877 ?_
  refine az_aload_n C 0 dL_law_878 rfl ?_
  refine az_iload_n C 3 dL_law_879 rfl ?_
  refine az_iconst (v := 2) C dL_law_880 (by decide) ?_
  refine az_iadd C dL_law_881 ?_
  refine az_sarg (q := 2) C hS (by omega) (by omega) rfl dL_law_882 ?_
  refine az_cV (rest := [.int r]) (st2 := [.int r, .int r]) C [.int (xs (6 * m + 1)), .int (xs (6 * m + 2))] (c_X12_odds C.hL G (xs (6 * m + 1)) (xs (6 * m + 2)) _ e2) (by decide) li_L_118 o40 (by decide) rfl rfl (Nat.le_of_ble_eq_true rfl) dL_law_883 rfl ?_
  refine az_icmp_eq C 1197 dL_law_886 (by decide) (fun _ => ?_) (fun c => absurd rfl c)
  exact lw_next hn C hI2 (by omega) (by omega)
set_option maxHeartbeats 4000000 in
set_option maxRecDepth 100000 in
theorem lc_queue {Y : az_Y} {Q : State → Prop} {Inv : Nat → az_S × Nat → az_M → Prop} {G b L m k n : Nat} {xs : Nat → Int32} (hob : Ob_queue Inv G) (hS : az_sc Y b L xs) (hR : Y.2.2.2.1.cells = 600000 ∧ Y.2.2.2.1.slots = 7302250) (hL : 6 * m + 6 ≤ L) (hL2 : L ≤ 3072) (hn : lw_H Y b Inv Q (m + 1)) {V : az_V} {M : az_M} (C : az_C (az_Yc Y k n) V code 4 RL ret 100) (hI : Inv m (az_z V) M) (hk : k ≤ 80 + 4 * m) (hn2 : n ≤ 40000 + 640 * m) : AW (az_Yc Y k n) V Q 4 M 891 [(0, .ref b), (1, .ref (az_ad V 0)), (2, .ref (az_ad V 40)), (3, .int (nI (6 * m)))] [] := by
  obtain ⟨r, M1, M2, e1, e2, hI2⟩ := hob m (az_z V) M (xs (6 * m + 1)) (by omega) hI
  have o0 := C.hL.at 0 (ci := 11) rfl
  have o40 := C.hL.at 40 (ci := 12) rfl
  refine az_aload_n C 1 dL_law_891 rfl ?_
  refine az_aload_n C 0 dL_law_892 rfl ?_
  refine az_iload_n C 3 dL_law_893 rfl ?_
  refine az_iconst (v := 1) C dL_law_894 (by decide) ?_
  refine az_iadd C dL_law_895 ?_
  refine az_sarg (q := 1) C hS (by omega) (by omega) rfl dL_law_896 ?_
  refine az_cV (rest := []) (st2 := [.int r]) C [.int (xs (6 * m + 1))] (c_X11_queue C.hL G (xs (6 * m + 1)) M e1) (by decide) li_L_119 o0 (by decide) rfl rfl (Nat.le_of_ble_eq_true rfl) dL_law_897 rfl ?_
  refine az_aload_n C 2 dL_law_900 rfl ?_
  refine az_aload_n C 0 dL_law_901 rfl ?_
  refine az_iload_n C 3 dL_law_902 rfl ?_
  refine az_iconst (v := 1) C dL_law_903 (by decide) ?_
  refine az_iadd C dL_law_904 ?_
  refine az_sarg (q := 1) C hS (by omega) (by omega) rfl dL_law_905 ?_
  refine az_cV (rest := [.int r]) (st2 := [.int r, .int r]) C [.int (xs (6 * m + 1))] (c_X12_queue C.hL G (xs (6 * m + 1)) _ e2) (by decide) li_L_122 o40 (by decide) rfl rfl (Nat.le_of_ble_eq_true rfl) dL_law_906 rfl ?_
  refine az_icmp_eq C 1197 dL_law_909 (by decide) (fun _ => ?_) (fun c => absurd rfl c)
  exact lw_next hn C hI2 (by omega) (by omega)
set_option maxHeartbeats 4000000 in
set_option maxRecDepth 100000 in
theorem lc_spades {Y : az_Y} {Q : State → Prop} {Inv : Nat → az_S × Nat → az_M → Prop} {G b L m k n : Nat} {xs : Nat → Int32} (hob : Ob_spades Inv G) (hS : az_sc Y b L xs) (hR : Y.2.2.2.1.cells = 600000 ∧ Y.2.2.2.1.slots = 7302250) (hL : 6 * m + 6 ≤ L) (hL2 : L ≤ 3072) (hn : lw_H Y b Inv Q (m + 1)) {V : az_V} {M : az_M} (C : az_C (az_Yc Y k n) V code 4 RL ret 100) (hI : Inv m (az_z V) M) (hk : k ≤ 80 + 4 * m) (hn2 : n ≤ 40000 + 640 * m) : AW (az_Yc Y k n) V Q 4 M 914 [(0, .ref b), (1, .ref (az_ad V 0)), (2, .ref (az_ad V 40)), (3, .int (nI (6 * m)))] [] := by
  obtain ⟨r, M1, M2, e1, e2, hI2⟩ := hob m (az_z V) M (by omega) hI
  have o0 := C.hL.at 0 (ci := 11) rfl
  have o40 := C.hL.at 40 (ci := 12) rfl
  refine az_aload_n C 1 dL_law_914 rfl ?_
  refine az_cV (rest := []) (st2 := [.int r]) C [] (c_X11_spades C.hL G M e1) (by decide) li_L_123 o0 (by decide) rfl rfl (Nat.le_of_ble_eq_true rfl) dL_law_915 rfl ?_
  refine az_aload_n C 2 dL_law_918 rfl ?_
  refine az_cV (rest := [.int r]) (st2 := [.int r, .int r]) C [] (c_X12_spades C.hL G _ e2) (by decide) li_L_126 o40 (by decide) rfl rfl (Nat.le_of_ble_eq_true rfl) dL_law_919 rfl ?_
  refine az_icmp_eq C 1197 dL_law_922 (by decide) (fun _ => ?_) (fun c => absurd rfl c)
  exact lw_next hn C hI2 (by omega) (by omega)
set_option maxHeartbeats 4000000 in
set_option maxRecDepth 100000 in
theorem lc_free {Y : az_Y} {Q : State → Prop} {Inv : Nat → az_S × Nat → az_M → Prop} {G b L m k n : Nat} {xs : Nat → Int32} (hob : Ob_free Inv G) (hS : az_sc Y b L xs) (hR : Y.2.2.2.1.cells = 600000 ∧ Y.2.2.2.1.slots = 7302250) (hL : 6 * m + 6 ≤ L) (hL2 : L ≤ 3072) (hn : lw_H Y b Inv Q (m + 1)) {V : az_V} {M : az_M} (C : az_C (az_Yc Y k n) V code 4 RL ret 100) (hI : Inv m (az_z V) M) (hk : k ≤ 80 + 4 * m) (hn2 : n ≤ 40000 + 640 * m) : AW (az_Yc Y k n) V Q 4 M 927 [(0, .ref b), (1, .ref (az_ad V 0)), (2, .ref (az_ad V 40)), (3, .int (nI (6 * m)))] [] := by
  obtain ⟨r, M2, e1, e2, hI2⟩ := hob m (az_z V) M (xs (6 * m + 1)) (by omega) hI
  have o0 := C.hL.at 0 (ci := 11) rfl
  have o40 := C.hL.at 40 (ci := 12) rfl
  refine az_aload_n C 1 dL_law_927 rfl ?_
  refine az_aload_n C 0 dL_law_928 rfl ?_
  refine az_iload_n C 3 dL_law_929 rfl ?_
  refine az_iconst (v := 1) C dL_law_930 (by decide) ?_
  refine az_iadd C dL_law_931 ?_
  refine az_sarg (q := 1) C hS (by omega) (by omega) rfl dL_law_932 ?_
  refine az_cV (rest := []) (st2 := [.int r]) C [.int (xs (6 * m + 1))] (c_X11_free C.hL G (xs (6 * m + 1)) M e1) (by decide) li_L_127 o0 (by decide) rfl rfl (Nat.le_of_ble_eq_true rfl) dL_law_933 rfl ?_
  refine az_aload_n C 2 dL_law_936 rfl ?_
  refine az_aload_n C 0 dL_law_937 rfl ?_
  refine az_iload_n C 3 dL_law_938 rfl ?_
  refine az_iconst (v := 1) C dL_law_939 (by decide) ?_
  refine az_iadd C dL_law_940 ?_
  refine az_sarg (q := 1) C hS (by omega) (by omega) rfl dL_law_941 ?_
  refine az_cV (rest := [.int r]) (st2 := [.int r, .int r]) C [.int (xs (6 * m + 1))] (c_X12_free C.hL G (xs (6 * m + 1)) _ e2) (by decide) li_L_130 o40 (by decide) rfl rfl (Nat.le_of_ble_eq_true rfl) dL_law_942 rfl ?_
  refine az_icmp_eq C 1197 dL_law_945 (by decide) (fun _ => ?_) (fun c => absurd rfl c)
  exact lw_next hn C hI2 (by omega) (by omega)
set_option maxHeartbeats 4000000 in
set_option maxRecDepth 100000 in
theorem lc_marks {Y : az_Y} {Q : State → Prop} {Inv : Nat → az_S × Nat → az_M → Prop} {G b L m k n : Nat} {xs : Nat → Int32} (hob : Ob_marks Inv G) (hS : az_sc Y b L xs) (hR : Y.2.2.2.1.cells = 600000 ∧ Y.2.2.2.1.slots = 7302250) (hL : 6 * m + 6 ≤ L) (hL2 : L ≤ 3072) (hn : lw_H Y b Inv Q (m + 1)) {V : az_V} {M : az_M} (C : az_C (az_Yc Y k n) V code 4 RL ret 100) (hI : Inv m (az_z V) M) (hk : k ≤ 80 + 4 * m) (hn2 : n ≤ 40000 + 640 * m) : AW (az_Yc Y k n) V Q 4 M 950 [(0, .ref b), (1, .ref (az_ad V 0)), (2, .ref (az_ad V 40)), (3, .int (nI (6 * m)))] [] := by
  obtain ⟨r, M1, M2, e1, e2, hI2⟩ := hob m (az_z V) M (xs (6 * m + 1)) (xs (6 * m + 2)) (xs (6 * m + 3)) (xs (6 * m + 4)) (by omega) hI
  have o0 := C.hL.at 0 (ci := 11) rfl
  have o40 := C.hL.at 40 (ci := 12) rfl
  refine az_aload_n C 1 dL_law_950 rfl ?_
  refine az_aload_n C 0 dL_law_951 rfl ?_
  refine az_iload_n C 3 dL_law_952 rfl ?_
  refine az_iconst (v := 1) C dL_law_953 (by decide) ?_
  refine az_iadd C dL_law_954 ?_
  refine az_sarg (q := 1) C hS (by omega) (by omega) rfl dL_law_955 ?_
  refine az_aload_n C 0 dL_law_956 rfl ?_
  refine az_iload_n C 3 dL_law_957 rfl ?_
  refine az_iconst (v := 2) C dL_law_958 (by decide) ?_
  refine az_iadd C dL_law_959 ?_
  refine az_sarg (q := 2) C hS (by omega) (by omega) rfl dL_law_960 ?_
  refine az_aload_n C 0 dL_law_961 rfl ?_
  refine az_iload_n C 3 dL_law_962 rfl ?_
  refine az_iconst (v := 3) C dL_law_963 (by decide) ?_
  refine az_iadd C dL_law_964 ?_
  refine az_sarg (q := 3) C hS (by omega) (by omega) rfl dL_law_965 ?_
  refine az_aload_n C 0 dL_law_966 rfl ?_
  refine az_iload_n C 3 dL_law_967 rfl ?_
  refine az_iconst (v := 4) C dL_law_968 (by decide) ?_
  refine az_iadd C dL_law_969 ?_
  refine az_sarg (q := 4) C hS (by omega) (by omega) rfl dL_law_970 ?_
  refine az_cV (rest := []) (st2 := [.int r]) C [.int (xs (6 * m + 1)), .int (xs (6 * m + 2)), .int (xs (6 * m + 3)), .int (xs (6 * m + 4))] (c_X11_marks C.hL G (xs (6 * m + 1)) (xs (6 * m + 2)) (xs (6 * m + 3)) (xs (6 * m + 4)) M e1) (by decide) li_L_131 o0 (by decide) rfl rfl (Nat.le_of_ble_eq_true rfl) dL_law_971 rfl ?_
  refine az_aload_n C 2 dL_law_974 rfl ?_
  refine az_aload_n C 0 dL_law_975 rfl ?_
  refine az_iload_n C 3 dL_law_976 rfl ?_
  refine az_iconst (v := 1) C dL_law_977 (by decide) ?_
  refine az_iadd C dL_law_978 ?_
  refine az_sarg (q := 1) C hS (by omega) (by omega) rfl dL_law_979 ?_
  refine az_aload_n C 0 dL_law_980 rfl ?_
  refine az_iload_n C 3 dL_law_981 rfl ?_
  refine az_iconst (v := 2) C dL_law_982 (by decide) ?_
  refine az_iadd C dL_law_983 ?_
  refine az_sarg (q := 2) C hS (by omega) (by omega) rfl dL_law_984 ?_
  refine az_aload_n C 0 dL_law_985 rfl ?_
  refine az_iload_n C 3 dL_law_986 rfl ?_
  refine az_iconst (v := 3) C dL_law_987 (by decide) ?_
  refine az_iadd C dL_law_988 ?_
  refine az_sarg (q := 3) C hS (by omega) (by omega) rfl dL_law_989 ?_
  refine az_aload_n C 0 dL_law_990 rfl ?_
  refine az_iload_n C 3 dL_law_991 rfl ?_
  refine az_iconst (v := 4) C dL_law_992 (by decide) ?_
  refine az_iadd C dL_law_993 ?_
  refine az_sarg (q := 4) C hS (by omega) (by omega) rfl dL_law_994 ?_
  refine az_cV (rest := [.int r]) (st2 := [.int r, .int r]) C [.int (xs (6 * m + 1)), .int (xs (6 * m + 2)), .int (xs (6 * m + 3)), .int (xs (6 * m + 4))] (c_X12_marks C.hL G (xs (6 * m + 1)) (xs (6 * m + 2)) (xs (6 * m + 3)) (xs (6 * m + 4)) _ e2) (by decide) li_L_134 o40 (by decide) rfl rfl (Nat.le_of_ble_eq_true rfl) dL_law_995 rfl ?_
  refine az_icmp_eq C 1197 dL_law_998 (by decide) (fun _ => ?_) (fun c => absurd rfl c)
  exact lw_next hn C hI2 (by omega) (by omega)
set_option maxHeartbeats 4000000 in
set_option maxRecDepth 100000 in
theorem lc_game {Y : az_Y} {Q : State → Prop} {Inv : Nat → az_S × Nat → az_M → Prop} {G b L m k n : Nat} {xs : Nat → Int32} (hob : Ob_game Inv G) (hS : az_sc Y b L xs) (hR : Y.2.2.2.1.cells = 600000 ∧ Y.2.2.2.1.slots = 7302250) (hL : 6 * m + 6 ≤ L) (hL2 : L ≤ 3072) (hn : lw_H Y b Inv Q (m + 1)) {V : az_V} {M : az_M} (C : az_C (az_Yc Y k n) V code 4 RL ret 100) (hI : Inv m (az_z V) M) (hk : k ≤ 80 + 4 * m) (hn2 : n ≤ 40000 + 640 * m) : AW (az_Yc Y k n) V Q 4 M 1003 [(0, .ref b), (1, .ref (az_ad V 0)), (2, .ref (az_ad V 40)), (3, .int (nI (6 * m)))] [] := by
  obtain ⟨r, M1, M2, e1, e2, hI2⟩ := hob m (az_z V) M (xs (6 * m + 1)) (by omega) hI
  have o0 := C.hL.at 0 (ci := 11) rfl
  have o40 := C.hL.at 40 (ci := 12) rfl
  refine az_aload_n C 1 dL_law_1003 rfl ?_
  refine az_aload_n C 0 dL_law_1004 rfl ?_
  refine az_iload_n C 3 dL_law_1005 rfl ?_
  refine az_iconst (v := 1) C dL_law_1006 (by decide) ?_
  refine az_iadd C dL_law_1007 ?_
  refine az_sarg (q := 1) C hS (by omega) (by omega) rfl dL_law_1008 ?_
  refine az_cV (rest := []) (st2 := [.int r]) C [.int (xs (6 * m + 1))] (c_X11_game C.hL G (xs (6 * m + 1)) M e1) (by decide) li_L_135 o0 (by decide) rfl rfl (Nat.le_of_ble_eq_true rfl) dL_law_1009 rfl ?_
  refine az_aload_n C 2 dL_law_1012 rfl ?_
  refine az_aload_n C 0 dL_law_1013 rfl ?_
  refine az_iload_n C 3 dL_law_1014 rfl ?_
  refine az_iconst (v := 1) C dL_law_1015 (by decide) ?_
  refine az_iadd C dL_law_1016 ?_
  refine az_sarg (q := 1) C hS (by omega) (by omega) rfl dL_law_1017 ?_
  refine az_cV (rest := [.int r]) (st2 := [.int r, .int r]) C [.int (xs (6 * m + 1))] (c_X12_game C.hL G (xs (6 * m + 1)) _ e2) (by decide) li_L_138 o40 (by decide) rfl rfl (Nat.le_of_ble_eq_true rfl) dL_law_1018 rfl ?_
  refine az_icmp_eq C 1197 dL_law_1021 (by decide) (fun _ => ?_) (fun c => absurd rfl c)
  exact lw_next hn C hI2 (by omega) (by omega)
set_option maxHeartbeats 4000000 in
set_option maxRecDepth 100000 in
theorem lc_share {Y : az_Y} {Q : State → Prop} {Inv : Nat → az_S × Nat → az_M → Prop} {G b L m k n : Nat} {xs : Nat → Int32} (hob : Ob_share Inv G) (hS : az_sc Y b L xs) (hR : Y.2.2.2.1.cells = 600000 ∧ Y.2.2.2.1.slots = 7302250) (hL : 6 * m + 6 ≤ L) (hL2 : L ≤ 3072) (hn : lw_H Y b Inv Q (m + 1)) {V : az_V} {M : az_M} (C : az_C (az_Yc Y k n) V code 4 RL ret 100) (hI : Inv m (az_z V) M) (hk : k ≤ 80 + 4 * m) (hn2 : n ≤ 40000 + 640 * m) : AW (az_Yc Y k n) V Q 4 M 1026 [(0, .ref b), (1, .ref (az_ad V 0)), (2, .ref (az_ad V 40)), (3, .int (nI (6 * m)))] [] := by
  obtain ⟨r, M2, e1, e2, hI2⟩ := hob m (az_z V) M (xs (6 * m + 1)) (xs (6 * m + 2)) (by omega) hI
  have o0 := C.hL.at 0 (ci := 11) rfl
  have o40 := C.hL.at 40 (ci := 12) rfl
  refine az_aload_n C 1 dL_law_1026 rfl ?_
  refine az_aload_n C 0 dL_law_1027 rfl ?_
  refine az_iload_n C 3 dL_law_1028 rfl ?_
  refine az_iconst (v := 1) C dL_law_1029 (by decide) ?_
  refine az_iadd C dL_law_1030 ?_
  refine az_sarg (q := 1) C hS (by omega) (by omega) rfl dL_law_1031 ?_
  refine az_aload_n C 0 dL_law_1032 rfl ?_
  refine az_iload_n C 3 dL_law_1033 rfl ?_
  refine az_iconst (v := 2) C dL_law_1034 (by decide) ?_
  refine az_iadd C dL_law_1035 ?_
  refine az_sarg (q := 2) C hS (by omega) (by omega) rfl dL_law_1036 ?_
  refine az_cV (rest := []) (st2 := [.int r]) C [.int (xs (6 * m + 1)), .int (xs (6 * m + 2))] (c_X11_share C.hL G (xs (6 * m + 1)) (xs (6 * m + 2)) M e1) (by decide) li_L_139 o0 (by decide) rfl rfl (Nat.le_of_ble_eq_true rfl) dL_law_1037 rfl ?_
  refine az_aload_n C 2 dL_law_1040 rfl ?_
  refine az_aload_n C 0 dL_law_1041 rfl ?_
  refine az_iload_n C 3 dL_law_1042 rfl ?_
  refine az_iconst (v := 1) C dL_law_1043 (by decide) ?_
  refine az_iadd C dL_law_1044 ?_
  refine az_sarg (q := 1) C hS (by omega) (by omega) rfl dL_law_1045 ?_
  refine az_aload_n C 0 dL_law_1046 rfl ?_
  refine az_iload_n C 3 dL_law_1047 rfl ?_
  refine az_iconst (v := 2) C dL_law_1048 (by decide) ?_
  refine az_iadd C dL_law_1049 ?_
  refine az_sarg (q := 2) C hS (by omega) (by omega) rfl dL_law_1050 ?_
  refine az_cV (rest := [.int r]) (st2 := [.int r, .int r]) C [.int (xs (6 * m + 1)), .int (xs (6 * m + 2))] (c_X12_share C.hL G (xs (6 * m + 1)) (xs (6 * m + 2)) _ e2) (by decide) li_L_142 o40 (by decide) rfl rfl (Nat.le_of_ble_eq_true rfl) dL_law_1051 rfl ?_
  refine az_icmp_eq C 1197 dL_law_1054 (by decide) (fun _ => ?_) (fun c => absurd rfl c)
  exact lw_next hn C hI2 (by omega) (by omega)
set_option maxHeartbeats 4000000 in
set_option maxRecDepth 100000 in
theorem lc_season {Y : az_Y} {Q : State → Prop} {Inv : Nat → az_S × Nat → az_M → Prop} {G b L m k n : Nat} {xs : Nat → Int32} (hob : Ob_season Inv G) (hS : az_sc Y b L xs) (hR : Y.2.2.2.1.cells = 600000 ∧ Y.2.2.2.1.slots = 7302250) (hL : 6 * m + 6 ≤ L) (hL2 : L ≤ 3072) (hn : lw_H Y b Inv Q (m + 1)) {V : az_V} {M : az_M} (C : az_C (az_Yc Y k n) V code 4 RL ret 100) (hI : Inv m (az_z V) M) (hk : k ≤ 80 + 4 * m) (hn2 : n ≤ 40000 + 640 * m) : AW (az_Yc Y k n) V Q 4 M 1059 [(0, .ref b), (1, .ref (az_ad V 0)), (2, .ref (az_ad V 40)), (3, .int (nI (6 * m)))] [] := by
  obtain ⟨r, M1, M2, e1, e2, hI2⟩ := hob m (az_z V) M (xs (6 * m + 1)) (xs (6 * m + 2)) (by omega) hI
  have o0 := C.hL.at 0 (ci := 11) rfl
  have o40 := C.hL.at 40 (ci := 12) rfl
  refine az_aload_n C 1 dL_law_1059 rfl ?_
  refine az_aload_n C 0 dL_law_1060 rfl ?_
  refine az_iload_n C 3 dL_law_1061 rfl ?_
  refine az_iconst (v := 1) C dL_law_1062 (by decide) ?_
  refine az_iadd C dL_law_1063 ?_
  refine az_sarg (q := 1) C hS (by omega) (by omega) rfl dL_law_1064 ?_
  refine az_aload_n C 0 dL_law_1065 rfl ?_
  refine az_iload_n C 3 dL_law_1066 rfl ?_
  refine az_iconst (v := 2) C dL_law_1067 (by decide) ?_
  refine az_iadd C dL_law_1068 ?_
  refine az_sarg (q := 2) C hS (by omega) (by omega) rfl dL_law_1069 ?_
  refine az_cV (rest := []) (st2 := [.int r]) C [.int (xs (6 * m + 1)), .int (xs (6 * m + 2))] (c_X11_season C.hL G (xs (6 * m + 1)) (xs (6 * m + 2)) M e1) (by decide) li_L_143 o0 (by decide) rfl rfl (Nat.le_of_ble_eq_true rfl) dL_law_1070 rfl ?_
  refine az_aload_n C 2 dL_law_1073 rfl ?_
  refine az_aload_n C 0 dL_law_1074 rfl ?_
  refine az_iload_n C 3 dL_law_1075 rfl ?_
  refine az_iconst (v := 1) C dL_law_1076 (by decide) ?_
  refine az_iadd C dL_law_1077 ?_
  refine az_sarg (q := 1) C hS (by omega) (by omega) rfl dL_law_1078 ?_
  refine az_aload_n C 0 dL_law_1079 rfl ?_
  refine az_iload_n C 3 dL_law_1080 rfl ?_
  refine az_iconst (v := 2) C dL_law_1081 (by decide) ?_
  refine az_iadd C dL_law_1082 ?_
  refine az_sarg (q := 2) C hS (by omega) (by omega) rfl dL_law_1083 ?_
  refine az_cV (rest := [.int r]) (st2 := [.int r, .int r]) C [.int (xs (6 * m + 1)), .int (xs (6 * m + 2))] (c_X12_season C.hL G (xs (6 * m + 1)) (xs (6 * m + 2)) _ e2) (by decide) li_L_146 o40 (by decide) rfl rfl (Nat.le_of_ble_eq_true rfl) dL_law_1084 rfl ?_
  refine az_icmp_eq C 1197 dL_law_1087 (by decide) (fun _ => ?_) (fun c => absurd rfl c)
  exact lw_next hn C hI2 (by omega) (by omega)
set_option maxHeartbeats 4000000 in
set_option maxRecDepth 100000 in
theorem lc_drawn {Y : az_Y} {Q : State → Prop} {Inv : Nat → az_S × Nat → az_M → Prop} {G b L m k n : Nat} {xs : Nat → Int32} (hob : Ob_drawn Inv G) (hS : az_sc Y b L xs) (hR : Y.2.2.2.1.cells = 600000 ∧ Y.2.2.2.1.slots = 7302250) (hL : 6 * m + 6 ≤ L) (hL2 : L ≤ 3072) (hn : lw_H Y b Inv Q (m + 1)) {V : az_V} {M : az_M} (C : az_C (az_Yc Y k n) V code 4 RL ret 100) (hI : Inv m (az_z V) M) (hk : k ≤ 80 + 4 * m) (hn2 : n ≤ 40000 + 640 * m) : AW (az_Yc Y k n) V Q 4 M 1092 [(0, .ref b), (1, .ref (az_ad V 0)), (2, .ref (az_ad V 40)), (3, .int (nI (6 * m)))] [] := by
  obtain ⟨r, M2, e1, e2, hI2⟩ := hob m (az_z V) M (xs (6 * m + 1)) (by omega) hI
  have o0 := C.hL.at 0 (ci := 11) rfl
  have o40 := C.hL.at 40 (ci := 12) rfl
  refine az_aload_n C 1 dL_law_1092 rfl ?_
  refine az_aload_n C 0 dL_law_1093 rfl ?_
  refine az_iload_n C 3 dL_law_1094 rfl ?_
  refine az_iconst (v := 1) C dL_law_1095 (by decide) ?_
  refine az_iadd C dL_law_1096 ?_
  refine az_sarg (q := 1) C hS (by omega) (by omega) rfl dL_law_1097 ?_
  refine az_cV (rest := []) (st2 := [.int r]) C [.int (xs (6 * m + 1))] (c_X11_drawn C.hL (xs (6 * m + 1)) M e1) (by decide) li_L_147 o0 (by decide) rfl rfl (Nat.le_of_ble_eq_true rfl) dL_law_1098 rfl ?_
  refine az_aload_n C 2 dL_law_1101 rfl ?_
  refine az_aload_n C 0 dL_law_1102 rfl ?_
  refine az_iload_n C 3 dL_law_1103 rfl ?_
  refine az_iconst (v := 1) C dL_law_1104 (by decide) ?_
  refine az_iadd C dL_law_1105 ?_
  refine az_sarg (q := 1) C hS (by omega) (by omega) rfl dL_law_1106 ?_
  refine az_cV (rest := [.int r]) (st2 := [.int r, .int r]) C [.int (xs (6 * m + 1))] (c_X12_drawn C.hL (xs (6 * m + 1)) _ e2) (by decide) li_L_150 o40 (by decide) rfl rfl (Nat.le_of_ble_eq_true rfl) dL_law_1107 rfl ?_
  refine az_icmp_eq C 1197 dL_law_1110 (by decide) (fun _ => ?_) (fun c => absurd rfl c)
  exact lw_next hn C hI2 (by omega) (by omega)
set_option maxHeartbeats 4000000 in
set_option maxRecDepth 100000 in
theorem lc_image {Y : az_Y} {Q : State → Prop} {Inv : Nat → az_S × Nat → az_M → Prop} {G b L m k n : Nat} {xs : Nat → Int32} (hob : Ob_image Inv G) (hS : az_sc Y b L xs) (hR : Y.2.2.2.1.cells = 600000 ∧ Y.2.2.2.1.slots = 7302250) (hL : 6 * m + 6 ≤ L) (hL2 : L ≤ 3072) (hn : lw_H Y b Inv Q (m + 1)) {V : az_V} {M : az_M} (C : az_C (az_Yc Y k n) V code 4 RL ret 100) (hI : Inv m (az_z V) M) (hk : k ≤ 80 + 4 * m) (hn2 : n ≤ 40000 + 640 * m) : AW (az_Yc Y k n) V Q 4 M 1115 [(0, .ref b), (1, .ref (az_ad V 0)), (2, .ref (az_ad V 40)), (3, .int (nI (6 * m)))] [] := by
  obtain ⟨hro, r, M1, ks, M2, e1, e2, hI2⟩ := hob m (az_z V) M (xs (6 * m + 1)) (by omega) hI
  have o0 := C.hL.at 0 (ci := 11) rfl
  have o40 := C.hL.at 40 (ci := 12) rfl
  refine az_aload_n C 1 dL_law_1115 rfl ?_
  refine az_aload_n C 0 dL_law_1116 rfl ?_
  refine az_iload_n C 3 dL_law_1117 rfl ?_
  refine az_iconst (v := 1) C dL_law_1118 (by decide) ?_
  refine az_iadd C dL_law_1119 ?_
  refine az_sarg (q := 1) C hS (by omega) (by omega) rfl dL_law_1120 ?_
  refine az_cVX (rest := []) C [.int (xs (6 * m + 1))] (c_X11_image G (xs (6 * m + 1)) M hro e1) (by decide) li_L_151 o0 (by decide) rfl rfl (Nat.le_of_ble_eq_true rfl) dL_law_1121 (by show k + 4 ≤ Y.2.2.2.1.cells; rw [hR.1]; omega) (by show n + 160 ≤ Y.2.2.2.1.slots; rw [hR.2]; omega) (fun v V2 M3 hv => ?_)
  obtain ⟨hv1, hv2, hv3⟩ := hv
  rw [hv1, hv2]
  have hz := hv3.z
  have ea := hv3.ad C.hL
  have C2 : az_C (az_Yc Y (k + 4) (n + 160)) V2 code 4 RL ret 100 := (C.ext hv3.e1 hv3.e2 hv3.e3 (hv3.L C.hL) (by show k + 4 ≤ Y.2.2.2.1.cells; rw [hR.1]; omega) (by show n + 160 ≤ Y.2.2.2.1.slots; rw [hR.2]; omega))
  refine az_eqlv (lv' := [(0, .ref b), (1, .ref (az_ad V2 0)), (2, .ref (az_ad V2 40)), (3, .int (nI (6 * m)))]) (by rw [ea 0 (by decide), ea 40 (by decide)]) ?_
  refine az_eqst (st' := [.int r]) rfl ?_
  have p40 := C2.hL.at 40 (ci := 12) rfl
  refine az_aload_n C2 2 dL_law_1124 rfl ?_
  refine az_aload_n C2 0 dL_law_1125 rfl ?_
  refine az_iload_n C2 3 dL_law_1126 rfl ?_
  refine az_iconst (v := 1) C2 dL_law_1127 (by decide) ?_
  refine az_iadd C2 dL_law_1128 ?_
  refine az_sarg (q := 1) C2 hS (by omega) (by omega) rfl dL_law_1129 ?_
  refine az_cV (rest := [.int r]) (st2 := [.int r, .int r]) C2 [.int (xs (6 * m + 1))] (c_X12_image C2.hL G (xs (6 * m + 1)) _ e2) (by decide) li_L_154 p40 (by decide) rfl rfl (Nat.le_of_ble_eq_true rfl) dL_law_1130 rfl ?_
  refine az_icmp_eq C2 1197 dL_law_1133 (by decide) (fun _ => ?_) (fun c => absurd rfl c)
  exact lw_next hn C2 (by rw [hz]; exact hI2) (by omega) (by omega)
set_option maxHeartbeats 4000000 in
set_option maxRecDepth 100000 in
theorem lc_back {Y : az_Y} {Q : State → Prop} {Inv : Nat → az_S × Nat → az_M → Prop} {G b L m k n : Nat} {xs : Nat → Int32} (hob : Ob_back Inv G) (hS : az_sc Y b L xs) (hR : Y.2.2.2.1.cells = 600000 ∧ Y.2.2.2.1.slots = 7302250) (hL : 6 * m + 6 ≤ L) (hL2 : L ≤ 3072) (hn : lw_H Y b Inv Q (m + 1)) {V : az_V} {M : az_M} (C : az_C (az_Yc Y k n) V code 4 RL ret 100) (hI : Inv m (az_z V) M) (hk : k ≤ 80 + 4 * m) (hn2 : n ≤ 40000 + 640 * m) : AW (az_Yc Y k n) V Q 4 M 1138 [(0, .ref b), (1, .ref (az_ad V 0)), (2, .ref (az_ad V 40)), (3, .int (nI (6 * m)))] [] := by
  obtain ⟨r, M1, M2, e1, e2, hI2⟩ := hob m (az_z V) M (xs (6 * m + 1)) (by omega) hI
  have o0 := C.hL.at 0 (ci := 11) rfl
  have o40 := C.hL.at 40 (ci := 12) rfl
  refine az_aload_n C 1 dL_law_1138 rfl ?_
  refine az_aload_n C 0 dL_law_1139 rfl ?_
  refine az_iload_n C 3 dL_law_1140 rfl ?_
  refine az_iconst (v := 1) C dL_law_1141 (by decide) ?_
  refine az_iadd C dL_law_1142 ?_
  refine az_sarg (q := 1) C hS (by omega) (by omega) rfl dL_law_1143 ?_
  refine az_cV (rest := []) (st2 := [.int r]) C [.int (xs (6 * m + 1))] (c_X11_back C.hL G (xs (6 * m + 1)) M e1) (by decide) li_L_155 o0 (by decide) rfl rfl (Nat.le_of_ble_eq_true rfl) dL_law_1144 rfl ?_
  refine az_aload_n C 2 dL_law_1147 rfl ?_
  refine az_aload_n C 0 dL_law_1148 rfl ?_
  refine az_iload_n C 3 dL_law_1149 rfl ?_
  refine az_iconst (v := 1) C dL_law_1150 (by decide) ?_
  refine az_iadd C dL_law_1151 ?_
  refine az_sarg (q := 1) C hS (by omega) (by omega) rfl dL_law_1152 ?_
  refine az_cV (rest := [.int r]) (st2 := [.int r, .int r]) C [.int (xs (6 * m + 1))] (c_X12_back C.hL G (xs (6 * m + 1)) _ e2) (by decide) li_L_158 o40 (by decide) rfl rfl (Nat.le_of_ble_eq_true rfl) dL_law_1153 rfl ?_
  refine az_icmp_eq C 1197 dL_law_1156 (by decide) (fun _ => ?_) (fun c => absurd rfl c)
  exact lw_next hn C hI2 (by omega) (by omega)
set_option maxHeartbeats 4000000 in
set_option maxRecDepth 100000 in
theorem lc_count {Y : az_Y} {Q : State → Prop} {Inv : Nat → az_S × Nat → az_M → Prop} {G b L m k n : Nat} {xs : Nat → Int32} (hob : Ob_count Inv G) (hS : az_sc Y b L xs) (hR : Y.2.2.2.1.cells = 600000 ∧ Y.2.2.2.1.slots = 7302250) (hL : 6 * m + 6 ≤ L) (hL2 : L ≤ 3072) (hn : lw_H Y b Inv Q (m + 1)) {V : az_V} {M : az_M} (C : az_C (az_Yc Y k n) V code 4 RL ret 100) (hI : Inv m (az_z V) M) (hk : k ≤ 80 + 4 * m) (hn2 : n ≤ 40000 + 640 * m) : AW (az_Yc Y k n) V Q 4 M 1161 [(0, .ref b), (1, .ref (az_ad V 0)), (2, .ref (az_ad V 40)), (3, .int (nI (6 * m)))] [] := by
  obtain ⟨r, M2, e1, e2, hI2⟩ := hob m (az_z V) M (xs (6 * m + 1)) (by omega) hI
  have o0 := C.hL.at 0 (ci := 11) rfl
  have o40 := C.hL.at 40 (ci := 12) rfl
  refine az_aload_n C 1 dL_law_1161 rfl ?_
  refine az_aload_n C 0 dL_law_1162 rfl ?_
  refine az_iload_n C 3 dL_law_1163 rfl ?_
  refine az_iconst (v := 1) C dL_law_1164 (by decide) ?_
  refine az_iadd C dL_law_1165 ?_
  refine az_sarg (q := 1) C hS (by omega) (by omega) rfl dL_law_1166 ?_
  refine az_cV (rest := []) (st2 := [.int r]) C [.int (xs (6 * m + 1))] (c_X11_count C.hL (xs (6 * m + 1)) M e1) (by decide) li_L_159 o0 (by decide) rfl rfl (Nat.le_of_ble_eq_true rfl) dL_law_1167 rfl ?_
  refine az_aload_n C 2 dL_law_1170 rfl ?_
  refine az_aload_n C 0 dL_law_1171 rfl ?_
  refine az_iload_n C 3 dL_law_1172 rfl ?_
  refine az_iconst (v := 1) C dL_law_1173 (by decide) ?_
  refine az_iadd C dL_law_1174 ?_
  refine az_sarg (q := 1) C hS (by omega) (by omega) rfl dL_law_1175 ?_
  refine az_cV (rest := [.int r]) (st2 := [.int r, .int r]) C [.int (xs (6 * m + 1))] (c_X12_count C.hL (xs (6 * m + 1)) _ e2) (by decide) li_L_162 o40 (by decide) rfl rfl (Nat.le_of_ble_eq_true rfl) dL_law_1176 rfl ?_
  refine az_icmp_eq C 1197 dL_law_1179 (by decide) (fun _ => ?_) (fun c => absurd rfl c)
  exact lw_next hn C hI2 (by omega) (by omega)
set_option maxHeartbeats 4000000 in
set_option maxRecDepth 100000 in
theorem lc_status {Y : az_Y} {Q : State → Prop} {Inv : Nat → az_S × Nat → az_M → Prop} {G b L m k n : Nat} {xs : Nat → Int32} (hob : Ob_status Inv G) (hS : az_sc Y b L xs) (hR : Y.2.2.2.1.cells = 600000 ∧ Y.2.2.2.1.slots = 7302250) (hL : 6 * m + 6 ≤ L) (hL2 : L ≤ 3072) (hn : lw_H Y b Inv Q (m + 1)) {V : az_V} {M : az_M} (C : az_C (az_Yc Y k n) V code 4 RL ret 100) (hI : Inv m (az_z V) M) (hk : k ≤ 80 + 4 * m) (hn2 : n ≤ 40000 + 640 * m) : AW (az_Yc Y k n) V Q 4 M 1184 [(0, .ref b), (1, .ref (az_ad V 0)), (2, .ref (az_ad V 40)), (3, .int (nI (6 * m)))] [] := by
  obtain ⟨r, M2, e1, e2, hI2⟩ := hob m (az_z V) M (by omega) hI
  have o0 := C.hL.at 0 (ci := 11) rfl
  have o40 := C.hL.at 40 (ci := 12) rfl
  refine az_aload_n C 1 dL_law_1184 rfl ?_
  refine az_cV (rest := []) (st2 := [.int r]) C [] (c_X11_status C.hL M e1) (by decide) li_L_163 o0 (by decide) rfl rfl (Nat.le_of_ble_eq_true rfl) dL_law_1185 rfl ?_
  refine az_aload_n C 2 dL_law_1188 rfl ?_
  refine az_cV (rest := [.int r]) (st2 := [.int r, .int r]) C [] (c_X12_status C.hL _ e2) (by decide) li_L_166 o40 (by decide) rfl rfl (Nat.le_of_ble_eq_true rfl) dL_law_1189 rfl ?_
  refine az_icmp_eq C 1197 dL_law_1192 (by decide) (fun _ => ?_) (fun c => absurd rfl c)
  exact lw_next hn C hI2 (by omega) (by omega)
