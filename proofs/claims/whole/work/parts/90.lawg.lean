/-! The law: what stands between its calls -/
theorem XR.kept {M M' : Mm} {b : Nat} {σ : Sg} (h : XR M b σ) (hq : ∀ q, b ≤ q → q < b + 73 → M'.1 q = M.1 q) : XR M' b σ := by
  obtain ⟨tb, sp, hts, h0, ⟨rq, sc, hRq, hRr⟩, hT, ⟨T2, hT2⟩, hN, ⟨r, hTr⟩, ⟨p, hPt, hp⟩, ⟨w, hWy⟩, ⟨w2, hFt, hf⟩, ⟨w3, hSw, hs⟩, ⟨r2, hRt⟩⟩ := h
  unfold tsp at hts
  refine ⟨tb, sp, hts, (hq _ (by omega) (by omega)).trans h0, ⟨rq, sc, ⟨(hq _ (by omega) (by omega)).trans hRq.1, (hq _ (by omega) (by omega)).trans hRq.2.1, (hq _ (by omega) (by omega)).trans hRq.2.2⟩, hRr⟩, hT.kept (fun q a1 a2 => hq q (by omega) (by omega)), ⟨T2, hT2.kept (fun q a1 a2 => hq q (by omega) (by omega))⟩, hN.kept (fun q a1 a2 => hq q (by omega) (by omega)), ⟨r, hTr.kept (fun q a1 a2 => hq q (by omega) (by omega))⟩, ⟨p, hPt.kept (fun q a1 a2 => hq q (by omega) (by omega)), hp⟩, ⟨w, hWy.kept (fun q a1 a2 => hq q (by omega) (by omega))⟩, ⟨w2, hFt.kept (fun q a1 a2 => hq q (by omega) (by omega)), hf⟩, ⟨w3, hSw.kept (fun q a1 a2 => hq q (by omega) (by omega)), hs⟩, ⟨r2, hRt.kept (fun q a1 a2 => hq q (by omega) (by omega))⟩⟩
/-- the reference's cells are kept -/
theorem YR.kept {M M' : Mm} {b : Nat} {σ : Sg} (h : YR M b σ) (hq : ∀ q, b ≤ q → q < M.2.1 → M'.1 q = M.1 q) (hs : M.2.1 ≤ M'.2.1) : YR M' b σ := by
  obtain ⟨o, A, h1, h2, h3, h4, h5, h6, h7, h8, h9, h10⟩ := h
  refine ⟨o, A, ⟨(hq _ (by omega) (by omega)).trans h1.1, fun j j1 j2 => (hq _ (by omega) (by omega)).trans (h1.2 j j1 j2)⟩, by omega, h3, h4, h5, h6, h7, h8, h9, ?_⟩
  rcases h10 with q | ⟨n1, a, t1, a1, a2, hM, r⟩
  · exact Or.inl q
  · have a3 : @LE.le Nat _ (@HAdd.hAdd Nat Nat Nat _ a 18) M.2.1 := a2
    exact Or.inr ⟨n1, a, t1, a1, Nat.le_trans a3 hs, hM.kept (fun q q1 q2 => hq q (by omega) (by omega)), r⟩
theorem YR.lo {M M' : Mm} {b lo n : Nat} {σ : Sg} (h : YR M b σ) (hF : Fr lo n M M') (hd : lo + n ≤ b) : YR M' b σ := h.kept (fun q q1 _ => hF.1 q (by omega)) (by rw [hF.2]; exact Nat.le_refl _)
def isIv (v : Option Value) : Prop := ∃ a, v = some (.int a)
section SPV
variable {σ σ' : Sg} {v : Option Value} {x y z w i l : Int32}
theorem spBack_V {q0 : Int32} (hs : spBack σ q0 v σ') : isIv v := by
  unfold spBack at hs
  repeat' split at hs
  all_goals first | (obtain ⟨h, _⟩ := hs; exact ⟨_, h⟩) | (obtain ⟨_, _, h, _⟩ := hs; exact ⟨_, h⟩) | (obtain ⟨_, _, h⟩ := hs; split at h <;> (obtain ⟨h, _⟩ := h; exact ⟨_, h⟩))
theorem spBuilders_V {q0 q1 : Int32} (hs : spBuilders σ q0 q1 v σ') : isIv v := by
  unfold spBuilders at hs
  repeat' split at hs
  all_goals first | (obtain ⟨h, _⟩ := hs; exact ⟨_, h⟩) | (obtain ⟨_, _, h, _⟩ := hs; exact ⟨_, h⟩) | (obtain ⟨_, _, h⟩ := hs; split at h <;> (obtain ⟨h, _⟩ := h; exact ⟨_, h⟩))
theorem spBuiltOf_V {q0 q1 q2 : Int32} (hs : spBuiltOf σ q0 q1 q2 v σ') : isIv v := by
  unfold spBuiltOf at hs
  repeat' split at hs
  all_goals first | (obtain ⟨h, _⟩ := hs; exact ⟨_, h⟩) | (obtain ⟨_, _, h, _⟩ := hs; exact ⟨_, h⟩) | (obtain ⟨_, _, h⟩ := hs; split at h <;> (obtain ⟨h, _⟩ := h; exact ⟨_, h⟩))
theorem spCandle_V {q0 : Int32} (hs : spCandle σ q0 v σ') : isIv v := by
  unfold spCandle at hs
  repeat' split at hs
  all_goals first | (obtain ⟨h, _⟩ := hs; exact ⟨_, h⟩) | (obtain ⟨_, _, h, _⟩ := hs; exact ⟨_, h⟩) | (obtain ⟨_, _, h⟩ := hs; split at h <;> (obtain ⟨h, _⟩ := h; exact ⟨_, h⟩))
theorem spCandleAt_V {q0 q1 : Int32} (hs : spCandleAt σ q0 q1 v σ') : isIv v := by
  unfold spCandleAt at hs
  repeat' split at hs
  all_goals first | (obtain ⟨h, _⟩ := hs; exact ⟨_, h⟩) | (obtain ⟨_, _, h, _⟩ := hs; exact ⟨_, h⟩) | (obtain ⟨_, _, h⟩ := hs; split at h <;> (obtain ⟨h, _⟩ := h; exact ⟨_, h⟩))
theorem spDebtor_V (hs : spDebtor σ v σ') : isIv v := by
  unfold spDebtor at hs
  repeat' split at hs
  all_goals first | (obtain ⟨h, _⟩ := hs; exact ⟨_, h⟩) | (obtain ⟨_, _, h, _⟩ := hs; exact ⟨_, h⟩) | (obtain ⟨_, _, h⟩ := hs; split at h <;> (obtain ⟨h, _⟩ := h; exact ⟨_, h⟩))
theorem spExAt_V {q0 : Int32} (hs : spExAt σ q0 v σ') : isIv v := by
  unfold spExAt at hs
  repeat' split at hs
  all_goals first | (obtain ⟨h, _⟩ := hs; exact ⟨_, h⟩) | (obtain ⟨_, _, h, _⟩ := hs; exact ⟨_, h⟩) | (obtain ⟨_, _, h⟩ := hs; split at h <;> (obtain ⟨h, _⟩ := h; exact ⟨_, h⟩))
theorem spExchange_V {q0 q1 : Int32} (hs : spExchange σ q0 q1 v σ') : isIv v := by
  unfold spExchange at hs
  repeat' split at hs
  all_goals first | (obtain ⟨h, _⟩ := hs; exact ⟨_, h⟩) | (obtain ⟨_, _, h, _⟩ := hs; exact ⟨_, h⟩) | (obtain ⟨_, _, h⟩ := hs; split at h <;> (obtain ⟨h, _⟩ := h; exact ⟨_, h⟩))
theorem spFarthest_V {q0 q1 : Int32} (hs : spFarthest σ q0 q1 v σ') : isIv v := by
  unfold spFarthest at hs
  repeat' split at hs
  all_goals first | (obtain ⟨h, _⟩ := hs; exact ⟨_, h⟩) | (obtain ⟨_, _, h, _⟩ := hs; exact ⟨_, h⟩) | (obtain ⟨_, _, h⟩ := hs; split at h <;> (obtain ⟨h, _⟩ := h; exact ⟨_, h⟩))
theorem spFeed_V {y1 y2 y3 y4 y5 : Int32} (hs : spFeed σ y1 y2 y3 y4 y5 v σ') : isIv v := by
  unfold spFeed at hs
  repeat' split at hs
  all_goals first | (obtain ⟨h, _⟩ := hs; exact ⟨_, h⟩) | (obtain ⟨_, _, h, _⟩ := hs; exact ⟨_, h⟩) | (obtain ⟨_, _, h⟩ := hs; split at h <;> (obtain ⟨h, _⟩ := h; exact ⟨_, h⟩))
theorem spFits_V {g : Fs4 → Int32} (hs : spFits σ g v σ') : isIv v := by
  unfold spFits at hs
  repeat' split at hs
  all_goals first | (obtain ⟨h, _⟩ := hs; exact ⟨_, h⟩) | (obtain ⟨_, _, h, _⟩ := hs; exact ⟨_, h⟩) | (obtain ⟨_, _, h⟩ := hs; split at h <;> (obtain ⟨h, _⟩ := h; exact ⟨_, h⟩))
theorem spFitsH_V {g : Nat → Fs4 → Int32} (hs : spFitsH σ x g v σ') : isIv v := by
  unfold spFitsH at hs
  repeat' split at hs
  all_goals first | (obtain ⟨h, _⟩ := hs; exact ⟨_, h⟩) | (obtain ⟨_, _, h, _⟩ := hs; exact ⟨_, h⟩) | (obtain ⟨_, _, h⟩ := hs; split at h <;> (obtain ⟨h, _⟩ := h; exact ⟨_, h⟩))
theorem spGain_V {q0 q1 q2 q3 q4 : Int32} (hs : spGain σ q0 q1 q2 q3 q4 v σ') : isIv v := by
  unfold spGain at hs
  repeat' split at hs
  all_goals first | (obtain ⟨h, _⟩ := hs; exact ⟨_, h⟩) | (obtain ⟨_, _, h, _⟩ := hs; exact ⟨_, h⟩) | (obtain ⟨_, _, h⟩ := hs; split at h <;> (obtain ⟨h, _⟩ := h; exact ⟨_, h⟩))
theorem spHomeIn_V {q0 : Int32} (hs : spHomeIn σ q0 v σ') : isIv v := by
  unfold spHomeIn at hs
  repeat' split at hs
  all_goals first | (obtain ⟨h, _⟩ := hs; exact ⟨_, h⟩) | (obtain ⟨_, _, h, _⟩ := hs; exact ⟨_, h⟩) | (obtain ⟨_, _, h⟩ := hs; split at h <;> (obtain ⟨h, _⟩ := h; exact ⟨_, h⟩))
theorem spHouse_V {q0 q1 : Int32} (hs : spHouse σ q0 q1 v σ') : isIv v := by
  unfold spHouse at hs
  repeat' split at hs
  all_goals first | (obtain ⟨h, _⟩ := hs; exact ⟨_, h⟩) | (obtain ⟨_, _, h, _⟩ := hs; exact ⟨_, h⟩) | (obtain ⟨_, _, h⟩ := hs; split at h <;> (obtain ⟨h, _⟩ := h; exact ⟨_, h⟩))
theorem spJudge_V (hs : spJudge σ v σ') : isIv v := by
  unfold spJudge at hs
  repeat' split at hs
  all_goals first | (obtain ⟨h, _⟩ := hs; exact ⟨_, h⟩) | (obtain ⟨_, _, h, _⟩ := hs; exact ⟨_, h⟩) | (obtain ⟨_, _, h⟩ := hs; split at h <;> (obtain ⟨h, _⟩ := h; exact ⟨_, h⟩))
theorem spMark_V (hs : spMark σ v σ') : isIv v := by
  unfold spMark at hs
  repeat' split at hs
  all_goals first | (obtain ⟨h, _⟩ := hs; exact ⟨_, h⟩) | (obtain ⟨_, _, h, _⟩ := hs; exact ⟨_, h⟩) | (obtain ⟨_, _, h⟩ := hs; split at h <;> (obtain ⟨h, _⟩ := h; exact ⟨_, h⟩))
theorem spMutual_V (hs : spMutual σ v σ') : isIv v := by
  unfold spMutual at hs
  repeat' split at hs
  all_goals first | (obtain ⟨h, _⟩ := hs; exact ⟨_, h⟩) | (obtain ⟨_, _, h, _⟩ := hs; exact ⟨_, h⟩) | (obtain ⟨_, _, h⟩ := hs; split at h <;> (obtain ⟨h, _⟩ := h; exact ⟨_, h⟩))
theorem spOpen_V {q0 q1 : Int32} (hs : spOpen σ q0 q1 v σ') : isIv v := by
  unfold spOpen at hs
  repeat' split at hs
  all_goals first | (obtain ⟨h, _⟩ := hs; exact ⟨_, h⟩) | (obtain ⟨_, _, h, _⟩ := hs; exact ⟨_, h⟩) | (obtain ⟨_, _, h⟩ := hs; split at h <;> (obtain ⟨h, _⟩ := h; exact ⟨_, h⟩))
theorem spPerson_V {q0 q1 : Int32} (hs : spPerson σ q0 q1 v σ') : isIv v := by
  unfold spPerson at hs
  repeat' split at hs
  all_goals first | (obtain ⟨h, _⟩ := hs; exact ⟨_, h⟩) | (obtain ⟨_, _, h, _⟩ := hs; exact ⟨_, h⟩) | (obtain ⟨_, _, h⟩ := hs; split at h <;> (obtain ⟨h, _⟩ := h; exact ⟨_, h⟩))
theorem spRest_V {q0 q1 : Int32} (hs : spRest σ q0 q1 v σ') : isIv v := by
  unfold spRest at hs
  repeat' split at hs
  all_goals first | (obtain ⟨h, _⟩ := hs; exact ⟨_, h⟩) | (obtain ⟨_, _, h, _⟩ := hs; exact ⟨_, h⟩) | (obtain ⟨_, _, h⟩ := hs; split at h <;> (obtain ⟨h, _⟩ := h; exact ⟨_, h⟩))
theorem spRests_V {q0 q1 : Int32} (hs : spRests σ q0 q1 v σ') : isIv v := by
  unfold spRests at hs
  repeat' split at hs
  all_goals first | (obtain ⟨h, _⟩ := hs; exact ⟨_, h⟩) | (obtain ⟨_, _, h, _⟩ := hs; exact ⟨_, h⟩) | (obtain ⟨_, _, h⟩ := hs; split at h <;> (obtain ⟨h, _⟩ := h; exact ⟨_, h⟩))
theorem spSame_V (hs : spSame σ x v σ') : isIv v := by
  unfold spSame at hs
  all_goals first | (obtain ⟨h, _⟩ := hs; exact ⟨_, h⟩) | (obtain ⟨_, _, h, _⟩ := hs; exact ⟨_, h⟩) | (obtain ⟨_, _, h⟩ := hs; split at h <;> (obtain ⟨h, _⟩ := h; exact ⟨_, h⟩))
theorem spSaves_V {q0 q1 q2 : Int32} (hs : spSaves σ q0 q1 q2 v σ') : isIv v := by
  unfold spSaves at hs
  repeat' split at hs
  all_goals first | (obtain ⟨h, _⟩ := hs; exact ⟨_, h⟩) | (obtain ⟨_, _, h, _⟩ := hs; exact ⟨_, h⟩) | (obtain ⟨_, _, h⟩ := hs; split at h <;> (obtain ⟨h, _⟩ := h; exact ⟨_, h⟩))
theorem spShut_V {q0 q1 : Int32} (hs : spShut σ q0 q1 v σ') : isIv v := by
  unfold spShut at hs
  repeat' split at hs
  all_goals first | (obtain ⟨h, _⟩ := hs; exact ⟨_, h⟩) | (obtain ⟨_, _, h, _⟩ := hs; exact ⟨_, h⟩) | (obtain ⟨_, _, h⟩ := hs; split at h <;> (obtain ⟨h, _⟩ := h; exact ⟨_, h⟩))
theorem spSize_V {q0 : Int32} (hs : spSize σ q0 v σ') : isIv v := by
  unfold spSize at hs
  all_goals first | (obtain ⟨h, _⟩ := hs; exact ⟨_, h⟩) | (obtain ⟨_, _, h, _⟩ := hs; exact ⟨_, h⟩) | (obtain ⟨_, _, h⟩ := hs; split at h <;> (obtain ⟨h, _⟩ := h; exact ⟨_, h⟩))
theorem spStands_V {q0 : Int32} (hs : spStands σ q0 v σ') : isIv v := by
  unfold spStands at hs
  repeat' split at hs
  all_goals first | (obtain ⟨h, _⟩ := hs; exact ⟨_, h⟩) | (obtain ⟨_, _, h, _⟩ := hs; exact ⟨_, h⟩) | (obtain ⟨_, _, h⟩ := hs; split at h <;> (obtain ⟨h, _⟩ := h; exact ⟨_, h⟩))
theorem spStreet_V {q0 q1 : Int32} (hs : spStreet σ q0 q1 v σ') : isIv v := by
  unfold spStreet at hs
  repeat' split at hs
  all_goals first | (obtain ⟨h, _⟩ := hs; exact ⟨_, h⟩) | (obtain ⟨_, _, h, _⟩ := hs; exact ⟨_, h⟩) | (obtain ⟨_, _, h⟩ := hs; split at h <;> (obtain ⟨h, _⟩ := h; exact ⟨_, h⟩))
theorem spSw_V {g : Sk → Int32} (hs : spSw σ g v σ') : isIv v := by
  unfold spSw at hs
  repeat' split at hs
  all_goals first | (obtain ⟨h, _⟩ := hs; exact ⟨_, h⟩) | (obtain ⟨_, _, h, _⟩ := hs; exact ⟨_, h⟩) | (obtain ⟨_, _, h⟩ := hs; split at h <;> (obtain ⟨h, _⟩ := h; exact ⟨_, h⟩))
theorem spWaits_V {q0 q1 : Int32} (hs : spWaits σ q0 q1 v σ') : isIv v := by
  unfold spWaits at hs
  repeat' split at hs
  all_goals first | (obtain ⟨h, _⟩ := hs; exact ⟨_, h⟩) | (obtain ⟨_, _, h, _⟩ := hs; exact ⟨_, h⟩) | (obtain ⟨_, _, h⟩ := hs; split at h <;> (obtain ⟨h, _⟩ := h; exact ⟨_, h⟩))
theorem spWay_V {q0 q1 q2 : Int32} (hs : spWay σ q0 q1 q2 v σ') : isIv v := by
  unfold spWay at hs
  repeat' split at hs
  all_goals first | (obtain ⟨h, _⟩ := hs; exact ⟨_, h⟩) | (obtain ⟨_, _, h, _⟩ := hs; exact ⟨_, h⟩) | (obtain ⟨_, _, h⟩ := hs; split at h <;> (obtain ⟨h, _⟩ := h; exact ⟨_, h⟩))
theorem spWayAt_V {q0 q1 q2 q3 : Int32} (hs : spWayAt σ q0 q1 q2 q3 v σ') : isIv v := by
  unfold spWayAt at hs
  repeat' split at hs
  all_goals first | (obtain ⟨h, _⟩ := hs; exact ⟨_, h⟩) | (obtain ⟨_, _, h, _⟩ := hs; exact ⟨_, h⟩) | (obtain ⟨_, _, h⟩ := hs; split at h <;> (obtain ⟨h, _⟩ := h; exact ⟨_, h⟩))
theorem spTown_V {n : Int32} (hs : spTown σ n v σ') : isIv v := by
  unfold spTown at hs
  split at hs
  · obtain ⟨sc, T0, _, _, h⟩ := hs
    split at h
    · obtain ⟨h, _⟩ := h; exact ⟨_, h⟩
    · obtain ⟨h, _⟩ := h; exact ⟨_, h⟩
  · obtain ⟨h, _⟩ := hs; exact ⟨_, h⟩
theorem spUndo_V (hs : spUndo σ v σ') : isIv v := by
  unfold spUndo at hs
  cases hac : σ.ac with
  | nil => rw [hac] at hs; obtain ⟨h, _⟩ := hs; exact ⟨_, h⟩
  | cons r ac => rw [hac] at hs; obtain ⟨h, _⟩ := hs; exact ⟨_, h⟩
theorem spGo_V (hs : spGo σ x y v σ') : isIv v := by
  unfold spGo at hs
  split at hs
  rotate_left
  · obtain ⟨h, _⟩ := hs; exact ⟨_, h⟩
  split at hs
  rotate_left
  · obtain ⟨h, _⟩ := hs; exact ⟨_, h⟩
  dsimp only at hs
  revert hs
  generalize (if σ.f (8 + x.toNatClampNeg) = y then (-2 : Int32) else mtgF σ (σ.f (8 + x.toNatClampNeg)).toNatClampNeg y.toNatClampNeg ((σ.f (12 + x.toNatClampNeg)).toNatClampNeg % 1440)) = m9
  intro hs
  split at hs
  · obtain ⟨h, _⟩ := hs; exact ⟨_, h⟩
  · obtain ⟨h, _⟩ := hs; exact ⟨_, h⟩
theorem spOwes_L (hs : spOwes σ x l v σ') : ∃ a, v = some (.long a) := by
  unfold spOwes at hs
  split at hs
  · obtain ⟨h, _⟩ := hs; exact ⟨_, h⟩
  · obtain ⟨h, _⟩ := hs; exact ⟨_, h⟩
theorem spNet_L (hs : spNet σ x l v σ') : ∃ a, v = some (.long a) := by
  unfold spNet at hs
  split at hs
  · obtain ⟨h, _⟩ := hs; exact ⟨_, h⟩
  · obtain ⟨h, _⟩ := hs; exact ⟨_, h⟩
end SPV
/-- between the law's calls: the class's object at h, the reference at h + 73, the row of one long at h + 89 -/
def lwI (ad : Nat → Nat) (h : Nat) (M : Mm) (σ : Sg) (C : Nat) : Prop := XR M h σ ∧ YR M (h + 73) σ ∧ Inv σ C ∧ aSt ad h M ∧ (∃ f, M.1 (h + 89) = some (.inl (1, 1, .inr f))) ∧ h + 90 ≤ M.2.1 ∧ M.2.2.1 ≤ 100 + 20 * C ∧ M.2.2.2 ≤ 4000 + 200 * C
theorem lwI.st {ad : Nat → Nat} {h C : Nat} {M M1 M2 : Mm} {σ σ' : Sg} (hI : lwI ad h M σ C) (hF1 : Fr h 73 M M1) (hX1 : XR M1 h σ') (hF2 : Fr (h + 73) 16 M1 M2) (hY2 : YR M2 (h + 73) σ') (hi : Inv σ' (C + 1)) : lwI ad h M2 σ' (C + 1) := by
  obtain ⟨hX, hY, hIv, hS, ⟨fo, ho⟩, h1, h2, h3⟩ := hI
  refine ⟨hX1.fr hF2 (Or.inl (by omega)), hY2, hi, (hS.fr hF1 (Nat.le_refl _)).fr hF2 (by omega), ⟨fo, (hF2.1 _ (by omega)).trans ((hF1.1 _ (by omega)).trans ho)⟩, ?_, ?_, ?_⟩
  all_goals rw [hF2.2, hF1.2]; omega
theorem lwI.tw {ad : Nat → Nat} {h C : Nat} {M M1 M2 : Mm} {σ σ' : Sg} (hI : lwI ad h M σ C) (hF1 : Fr h 73 M M1) (hX1 : XR M1 h σ') (hk : ∀ q, q < M1.2.1 → (q < h + 73 ∨ h + 73 + 16 ≤ q) → M2.1 q = M1.1 q) (hz : M2.2 = M1.2 ∨ M2.2 = (M1.2.1 + 18, M1.2.2.1 + 18, M1.2.2.2 + 190)) (hY2 : YR M2 (h + 73) σ') (hi : Inv σ' (C + 1)) : lwI ad h M2 σ' (C + 1) := by
  obtain ⟨hX, hY, hIv, hS, ⟨fo, ho⟩, h1, h2, h3⟩ := hI
  have e1 := hF1.2
  have z1 : M1.2.1 = M.2.1 := by rw [e1]
  refine ⟨hX1.kept (fun q a1 a2 => hk q (by omega) (Or.inl (by omega))), hY2, hi, fun j hj => ?_, ⟨fo, (hk _ (by omega) (Or.inr (by omega))).trans ((hF1.1 _ (by omega)).trans ho)⟩, ?_, ?_, ?_⟩
  · have s1 := (hS.fr hF1 (Nat.le_refl _)) j hj
    exact ⟨s1.1, (hk _ (by omega) (Or.inl (by omega))).trans s1.2⟩
  all_goals
    rcases hz with q | q
    · rw [q, e1]; omega
    · rw [q, e1]; dsimp only; omega
/-! the script's ints, and the stop between two calls -/
def fSld (b L : Nat) (xs : Nat → Int32) (nx : Nat) : Fm → Option Fm := fun fr => match fr.2.2.1 with
  | .int i :: .ref a :: r => if a = b ∧ ¬ (i < 0 ∨ L ≤ i.toNatClampNeg) then some (nx, fr.2.1, .int (xs i.toNatClampNeg) :: r, fr.2.2.2) else none
  | _ => none
theorem fSld_inv {b L nx : Nat} {xs : Nat → Int32} {fr fr' : Fm} (h : fSld b L xs nx fr = some fr') : ∃ (i : Int32) (r : List Value), fr.2.2.1 = .int i :: .ref b :: r ∧ vp_in i L ∧ fr' = (nx, fr.2.1, .int (xs i.toNatClampNeg) :: r, fr.2.2.2) := by
  unfold fSld at h
  split at h
  · rename_i i a r e1
    split at h
    · rename_i hc
      obtain ⟨rfl, hc⟩ := hc
      cases h
      exact ⟨i, r, e1, hc, rfl⟩
    · cases h
  · cases h
theorem ok_sld {mt : List Mi} {X : Cxt} {cc : ByteArray} {nL : Nat} {own nm : String} {ad : Nat → Nat} {b L pc : Nat} {xs : Nat → Int32} (hC : pmC X cc nL own nm ad) (hx : va_X b L xs X.St X.St.heap) (hbl : b < X.St.heap.size) (hbA : ¬ X.Ow b) (hd : decode cc pc = .ok (.iaload, 1)) : pmN (pc, pmW (fSld b L xs (pc + 1))) ∧ pmO2 mt X nL (pc, pmW (fSld b L xs (pc + 1))) := by
  refine ⟨fun L1 st M => ⟨fun fr' hf => ?_, fun j as fr' hf => absurd hf (pmW_inr _ _), fun v M1 hf => absurd hf (pmW_inr _ _)⟩, fun L1 st M => ⟨fun fr' hf _ _ hS => ?_, fun j as fr' hf => absurd hf (pmW_inr _ _)⟩⟩
  · obtain ⟨i, r, -, -, rfl⟩ := fSld_inv (pmW_inl hf)
    exact pmLe.rf M
  · obtain ⟨i, r, e1, e2, rfl⟩ := fSld_inv (pmW_inl hf)
    intro ls H locs k n hL hR hk hn
    dsimp only at e1 hL hR hk hn ⊢
    subst e1
    exact va_sld hC.1 hC.2.1 hx hbl hbA hR.2.2 e2 hd (hS ls H locs k n hL hR hk hn)
def fHd (b x m o : Nat) (z : Int32) : Ins := fun fr => match fr.2.1, fr.2.2.1 with
  | [some (.ref b'), some (.ref x'), some (.ref m'), some (.ref o'), some (.int i), _, _], [] => if b' = b ∧ x' = x ∧ m' = m ∧ o' = o ∧ i = z then some (.inr (.inr (none, fr.2.2.2))) else none
  | _, _ => none
theorem fHd_inv {b x m o : Nat} {z : Int32} {fr : Fm} {r : Rs} (h : fHd b x m o z fr = some r) : ∃ (p q : Option Value), fr.2.1 = [some (.ref b), some (.ref x), some (.ref m), some (.ref o), some (.int z), p, q] ∧ fr.2.2.1 = [] ∧ r = .inr (.inr (none, fr.2.2.2)) := by
  unfold fHd at h
  split at h
  · rename_i b' x' m' o' i p q e1 e2
    split at h
    · rename_i hc
      obtain ⟨rfl, rfl, rfl, rfl, rfl⟩ := hc
      cases h
      exact ⟨p, q, e1, e2, rfl⟩
    · cases h
  · cases h
theorem ok_hd {mt : List Mi} {X : Cxt} {nL b x m o pc : Nat} {z : Int32} : pmN (pc, fHd b x m o z) ∧ pmO2 mt X nL (pc, fHd b x m o z) := by
  refine ⟨fun L1 st M => ⟨fun fr' hf => ?_, fun j as fr' hf => ?_, fun v M1 hf => ?_⟩, fun L1 st M => ⟨fun fr' hf _ _ hS => ?_, fun j as fr' hf => ?_⟩⟩
  all_goals
    obtain ⟨p, q, -, -, e⟩ := fHd_inv hf
    cases e
  rfl
/-- a row that never stops without an answer -/
def noN (q : Nat × Ins) : Prop := ∀ (L : Lc) (st : List Value) (M M' : Mm), q.2 (q.1, L, st, M) ≠ some (.inr (.inr (none, M')))
theorem pmG.o3 {mt : List Mi} {cc : ByteArray} {nL : Nat} {own nm : String} {ad : Nat → Nat} {ty : FieldType} {q : Nat × Ins} (h : pmG mt cc nL own nm ad (some ty) q) {X : Cxt} (hC : pmC X cc nL own nm ad) : (pmN q ∧ pmO2 mt X nL q) ∧ noN q := by
  refine ⟨h.o2 hC, fun L st M M' hf => ?_⟩
  obtain ⟨-, -, e3⟩ := (h.2 X hC L st M).2.2 none M' hf
  rcases e3 with ⟨-, h1, -⟩ | ⟨y, ty, h1, -⟩ | ⟨y, h1, -⟩ | ⟨y, rt, h1, -⟩
  · cases h1
  · cases h1
  · cases h1
  · cases h1
theorem ok_sld3 {mt : List Mi} {X : Cxt} {cc : ByteArray} {nL : Nat} {own nm : String} {ad : Nat → Nat} {b L pc : Nat} {xs : Nat → Int32} (hC : pmC X cc nL own nm ad) (hx : va_X b L xs X.St X.St.heap) (hbl : b < X.St.heap.size) (hbA : ¬ X.Ow b) (hd : decode cc pc = .ok (.iaload, 1)) : (pmN (pc, pmW (fSld b L xs (pc + 1))) ∧ pmO2 mt X nL (pc, pmW (fSld b L xs (pc + 1)))) ∧ noN (pc, pmW (fSld b L xs (pc + 1))) := ⟨ok_sld hC hx hbl hbA hd, fun _ _ _ _ => pmW_inr _ _⟩
section LRU
variable {ad : Nat → Nat} {d : Nat} {rows : List (Nat × Ins)} {P : Option Value → Mm → Prop} {pc : Nat} {L : Lc} {st : List Value} {M : Mm}
theorem eslw {b n nx k : Nat} {j : Int32} {xs : Nat → Int32} (hr : rows.find? (fun q => q.1 == pc) = some (pc, pmW (fSld b n xs nx))) (hj : j = nI k) (hk : k < n ∧ n ≤ 3072) (kk : Ev ad d rows (nx, L, .int (xs k) :: st, M) P) : Ev ad d rows (pc, L, .int j :: .ref b :: st, M) P := by
  subst hj
  refine ew hr ?_ kk
  unfold fSld
  dsimp only
  rw [if_pos ⟨rfl, vp_in_nI hk.1 (by omega)⟩, nI_clamp (by omega)]
theorem ehd {b x m o : Nat} {i : Int32} {p q : Option Value} (hr : rows.find? (fun q => q.1 == pc) = some (pc, fHd b x m o i)) (hp : P none M) : Ev ad d rows (pc, [some (.ref b), some (.ref x), some (.ref m), some (.ref o), some (.int i), p, q], [], M) P := by
  refine ery hr ?_ hp
  show (if b = b ∧ x = x ∧ m = m ∧ o = o ∧ i = i then some (Sum.inr (Sum.inr (none, M))) else none) = _
  rw [if_pos ⟨rfl, rfl, rfl, rfl, rfl⟩]
end LRU
theorem ixa1 (i : Nat) : nI i + 1 = nI (i + 1) := nI_add i 1
theorem ixa2 (i : Nat) : nI i + 2 = nI (i + 2) := nI_add i 2
theorem ixa3 (i : Nat) : nI i + 3 = nI (i + 3) := nI_add i 3
theorem ixa4 (i : Nat) : nI i + 4 = nI (i + 4) := nI_add i 4
theorem ixa5 (i : Nat) : nI i + 5 = nI (i + 5) := nI_add i 5
def lwP (ad : Nat → Nat) (h C : Nat) : Option Value → Mm → Prop := fun v M' => v = none ∧ ∃ σ', lwI ad h M' σ' (C + 1)
theorem lg_cs (a : Int64) : lg_cmp a a = 0 := by unfold lg_cmp; simp
theorem fa_a {α : Type} {P : α → Prop} {l m : List α} (h1 : ∀ q ∈ l, P q) (h2 : ∀ q ∈ m, P q) : ∀ q ∈ l ++ m, P q := fun q hq => (List.mem_append.mp hq).elim (h1 q) (h2 q)
