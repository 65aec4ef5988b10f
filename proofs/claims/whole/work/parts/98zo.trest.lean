/-! both rest -/
theorem t_rest {Z : az_S × Nat} {B : Nat} {inF : Int32} {ls : Nat → sp_L} {M Mr : az_M} (D : Deed Z B inF ls M Mr) (a1 : Int32) : ∃ r M' Mr', f_X1_tryRest a1 M = some (r, M') ∧ f_X12_restNow sp_G a1 Mr = some (r, Mr') ∧ Out Z B inF ls r M Mr M' Mr' := by
  rcases r_cases a1 1 99 (by decide) (by decide) with ⟨n, hn1, hn2, rfl⟩ | ⟨hb, hi⟩
  · obtain ⟨M1, Mr1, f1, f3, D1, n1, dc, dr, k1, m2⟩ := D.keep (v := 2) (by decide)
    obtain ⟨d, hd, _, hd2⟩ := D.cls.rg.2.1.1.nat (by decide) (by decide)
    obtain ⟨r, hr, _, hr2⟩ := D.cls.rg.1.2.2.1.nat (by decide) (by decide)
    have pr := D1.ref.pr
    rw [n1] at pr
    have hd1 : Mr1.1 42 6 = nI d := (pr.2.1 0 (by decide)).symm.trans hd
    have hr1 : Mr1.1 42 13 = nI r := pr.1.2.2.1.symm.trans hr
    have f4 := p_goDays (n := n) hd1 hr1 (by omega) (by omega) (by omega)
    have f2 : f_X1_tryRest (nI n) M = some (nI (d + min n (999 - d)), ro M1 2 (dN (M.1 2) d r n)) := by
      unfold f_X1_tryRest
      rw [show f_X3_keep 7 1 2 M = some M1 from f1, Option.bind_some, p_passDays, n1, sp_days_nat hd hr (by omega) (by omega) (by omega)]
      exact (i_good (lo := 1) (hi := 99) hn1 hn2 (by decide)).trans rfl
    have fd : sp_fd Mr1 (ro Mr1 42 (dR (Mr1.1 42) d r n)) := (sp_fd.refl Mr1).row (fun j hj => by unfold dR; rw [up_ne (by omega), up_ne (by omega)])
    have pr' := dN_pr pr D.cls.rg.q7 d r n
    have rg' := dN_rg D.cls.rg (d := d) (r := r) (by omega) (by omega) n
    refine ⟨nI (d + min n (999 - d)), _, ro Mr1 42 (dR (Mr1.1 42) d r n), f2, ?_, Or.inr ⟨nI_pos' (by omega), ⟨?_, ?_, ?_, ?_⟩, dc.trans ⟨fun k h2 _ _ _ _ _ _ => ro_ne h2, rfl⟩, dr.trans fd.dr⟩⟩
    · unfold f_X12_restNow
      rw [show f_X12_in (nI n).toInt64 1 99 _ = some 1 from g_in hn1 hn2 (by decide) _, Option.bind_some, if_neg (by decide), show f_X12_remember sp_G 2 Mr = some Mr1 from f3, Option.bind_some, f4, Option.bind_some]
      rw [show f_X12_term 0 (ro Mr1 42 (dR (Mr1.1 42) d r n)) = some (nI (d + min n (999 - d))) from p_term (k := 0) (by decide) _, Option.bind_some]
    · rw [ro_eq]
      exact D1.cls.to (ro_ne (by decide)) (fun k hk => ro_ne (by omega)) rfl (ro_eq _ _ _) rg' D.cls.hB (by decide)
    · rw [ro_eq]
      exact D1.ref.fd fd (by rw [ro_eq]; exact pr') rg' D.cls.hB
    · exact D1.past
    · rw [ro_eq]; exact D.wl
  · refine ⟨-1, M, Mr, ?_, ?_, Or.inl ⟨Or.inl rfl, sp_cf.refl M, sp_fr.refl Mr⟩⟩
    · unfold f_X1_tryRest f_X1_tryRest_11
      exact i_bad (lo := 1) (hi := 99) hb
    · unfold f_X12_restNow
      rw [show f_X12_in a1.toInt64 1 99 Mr = some 0 from hi _]; rfl
