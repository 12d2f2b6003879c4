/-! all methods -/
theorem all_RR : LAll RR := ⟨fun _ _ _ _ h => h, m_feed, m_agree, m_fault, m_pass, m_post, m_note, m_look, m_pay, m_due, m_run, m_payment, m_paid, m_cost, m_like, m_pair, m_meet, m_met, m_count⟩
