theorem dL_at_0 : decode cL_at 0 = .ok (.iload_n 1, 1) := by decide +kernel
theorem dL_at_1 : decode cL_at 1 = .ok (.aload_n 0, 1) := by decide +kernel
theorem dL_at_2 : decode cL_at 2 = .ok (.arraylength, 1) := by decide +kernel
theorem dL_at_3 : decode cL_at 3 = .ok (.if_icmp .ge 9, 3) := by decide +kernel
theorem dL_at_6 : decode cL_at 6 = .ok (.aload_n 0, 1) := by decide +kernel
theorem dL_at_7 : decode cL_at 7 = .ok (.iload_n 1, 1) := by decide +kernel
theorem dL_at_8 : decode cL_at 8 = .ok (.iaload, 1) := by decide +kernel
theorem dL_at_9 : decode cL_at 9 = .ok (.goto 12, 3) := by decide +kernel
theorem dL_at_12 : decode cL_at 12 = .ok (.ldc 7, 2) := by decide +kernel
theorem dL_at_14 : decode cL_at 14 = .ok (.iload_n 1, 1) := by decide +kernel
theorem dL_at_15 : decode cL_at 15 = .ok (.iconst 1, 1) := by decide +kernel
theorem dL_at_16 : decode cL_at 16 = .ok (.iadd, 1) := by decide +kernel
theorem dL_at_17 : decode cL_at 17 = .ok (.imul, 1) := by decide +kernel
theorem dL_at_18 : decode cL_at 18 = .ok (.ldc 8, 2) := by decide +kernel
theorem dL_at_20 : decode cL_at 20 = .ok (.iadd, 1) := by decide +kernel
theorem dL_at_21 : decode cL_at 21 = .ok (.ireturn, 1) := by decide +kernel
theorem dL_low_0 : decode cL_low 0 = .ok (.iload_n 0, 1) := by decide +kernel
theorem dL_low_1 : decode cL_low 1 = .ok (.ldc 9, 2) := by decide +kernel
theorem dL_low_3 : decode cL_low 3 = .ok (.iand, 1) := by decide +kernel
theorem dL_low_4 : decode cL_low 4 = .ok (.iload_n 1, 1) := by decide +kernel
theorem dL_low_5 : decode cL_low 5 = .ok (.irem, 1) := by decide +kernel
theorem dL_low_6 : decode cL_low 6 = .ok (.ireturn, 1) := by decide +kernel
theorem dL_draft_0 : decode cL_draft 0 = .ok (.aload_n 0, 1) := by decide +kernel
theorem dL_draft_1 : decode cL_draft 1 = .ok (.invokevirtual 10, 3) := by decide +kernel
theorem dL_draft_4 : decode cL_draft 4 = .ok (.ireturn, 1) := by decide +kernel
theorem dL_draft_5 : decode cL_draft 5 = .ok (.astore_n 1, 1) := by decide +kernel
theorem dL_draft_6 : decode cL_draft 6 = .ok (.ldc 18, 2) := by decide +kernel
theorem dL_draft_8 : decode cL_draft 8 = .ok (.ireturn, 1) := by decide +kernel
theorem dL_addSlot_0 : decode cL_addSlot 0 = .ok (.aload_n 0, 1) := by decide +kernel
theorem dL_addSlot_1 : decode cL_addSlot 1 = .ok (.iload_n 1, 1) := by decide +kernel
theorem dL_addSlot_2 : decode cL_addSlot 2 = .ok (.iload_n 2, 1) := by decide +kernel
theorem dL_addSlot_3 : decode cL_addSlot 3 = .ok (.iload_n 3, 1) := by decide +kernel
theorem dL_addSlot_4 : decode cL_addSlot 4 = .ok (.invokevirtual 19, 3) := by decide +kernel
theorem dL_addSlot_7 : decode cL_addSlot 7 = .ok (.ireturn, 1) := by decide +kernel
theorem dL_addSlot_8 : decode cL_addSlot 8 = .ok (.astore 4, 2) := by decide +kernel
theorem dL_addSlot_10 : decode cL_addSlot 10 = .ok (.ldc 25, 2) := by decide +kernel
theorem dL_addSlot_12 : decode cL_addSlot 12 = .ok (.ireturn, 1) := by decide +kernel
theorem dL_addSlot_13 : decode cL_addSlot 13 = .ok (.astore 4, 2) := by decide +kernel
theorem dL_addSlot_15 : decode cL_addSlot 15 = .ok (.ldc 28, 2) := by decide +kernel
theorem dL_addSlot_17 : decode cL_addSlot 17 = .ok (.ireturn, 1) := by decide +kernel
theorem dL_addSlot_18 : decode cL_addSlot 18 = .ok (.astore 4, 2) := by decide +kernel
theorem dL_addSlot_20 : decode cL_addSlot 20 = .ok (.ldc 18, 2) := by decide +kernel
theorem dL_addSlot_22 : decode cL_addSlot 22 = .ok (.ireturn, 1) := by decide +kernel
theorem dL_addRound_0 : decode cL_addRound 0 = .ok (.aload_n 0, 1) := by decide +kernel
theorem dL_addRound_1 : decode cL_addRound 1 = .ok (.iload_n 1, 1) := by decide +kernel
theorem dL_addRound_2 : decode cL_addRound 2 = .ok (.iload_n 2, 1) := by decide +kernel
theorem dL_addRound_3 : decode cL_addRound 3 = .ok (.invokevirtual 29, 3) := by decide +kernel
theorem dL_addRound_6 : decode cL_addRound 6 = .ok (.ireturn, 1) := by decide +kernel
theorem dL_addRound_7 : decode cL_addRound 7 = .ok (.astore_n 3, 1) := by decide +kernel
theorem dL_addRound_8 : decode cL_addRound 8 = .ok (.ldc 25, 2) := by decide +kernel
theorem dL_addRound_10 : decode cL_addRound 10 = .ok (.ireturn, 1) := by decide +kernel
theorem dL_addRound_11 : decode cL_addRound 11 = .ok (.astore_n 3, 1) := by decide +kernel
theorem dL_addRound_12 : decode cL_addRound 12 = .ok (.ldc 28, 2) := by decide +kernel
theorem dL_addRound_14 : decode cL_addRound 14 = .ok (.ireturn, 1) := by decide +kernel
theorem dL_addRound_15 : decode cL_addRound 15 = .ok (.astore_n 3, 1) := by decide +kernel
theorem dL_addRound_16 : decode cL_addRound 16 = .ok (.ldc 18, 2) := by decide +kernel
theorem dL_addRound_18 : decode cL_addRound 18 = .ok (.ireturn, 1) := by decide +kernel
theorem dL_setTimes_0 : decode cL_setTimes 0 = .ok (.aload_n 0, 1) := by decide +kernel
theorem dL_setTimes_1 : decode cL_setTimes 1 = .ok (.iload_n 1, 1) := by decide +kernel
theorem dL_setTimes_2 : decode cL_setTimes 2 = .ok (.iload_n 2, 1) := by decide +kernel
theorem dL_setTimes_3 : decode cL_setTimes 3 = .ok (.iload_n 3, 1) := by decide +kernel
theorem dL_setTimes_4 : decode cL_setTimes 4 = .ok (.invokevirtual 33, 3) := by decide +kernel
theorem dL_setTimes_7 : decode cL_setTimes 7 = .ok (.iconst 0, 1) := by decide +kernel
theorem dL_setTimes_8 : decode cL_setTimes 8 = .ok (.ireturn, 1) := by decide +kernel
theorem dL_setTimes_9 : decode cL_setTimes 9 = .ok (.astore 4, 2) := by decide +kernel
theorem dL_setTimes_11 : decode cL_setTimes 11 = .ok (.ldc 25, 2) := by decide +kernel
theorem dL_setTimes_13 : decode cL_setTimes 13 = .ok (.ireturn, 1) := by decide +kernel
theorem dL_setTimes_14 : decode cL_setTimes 14 = .ok (.astore 4, 2) := by decide +kernel
theorem dL_setTimes_16 : decode cL_setTimes 16 = .ok (.ldc 28, 2) := by decide +kernel
theorem dL_setTimes_18 : decode cL_setTimes 18 = .ok (.ireturn, 1) := by decide +kernel
theorem dL_setTimes_19 : decode cL_setTimes 19 = .ok (.astore 4, 2) := by decide +kernel
theorem dL_setTimes_21 : decode cL_setTimes 21 = .ok (.ldc 18, 2) := by decide +kernel
theorem dL_setTimes_23 : decode cL_setTimes 23 = .ok (.ireturn, 1) := by decide +kernel
theorem dL_send_0 : decode cL_send 0 = .ok (.aload_n 0, 1) := by decide +kernel
theorem dL_send_1 : decode cL_send 1 = .ok (.iload_n 1, 1) := by decide +kernel
theorem dL_send_2 : decode cL_send 2 = .ok (.invokevirtual 37, 3) := by decide +kernel
theorem dL_send_5 : decode cL_send 5 = .ok (.ireturn, 1) := by decide +kernel
theorem dL_send_6 : decode cL_send 6 = .ok (.astore_n 2, 1) := by decide +kernel
theorem dL_send_7 : decode cL_send 7 = .ok (.ldc 25, 2) := by decide +kernel
theorem dL_send_9 : decode cL_send 9 = .ok (.ireturn, 1) := by decide +kernel
theorem dL_send_10 : decode cL_send 10 = .ok (.astore_n 2, 1) := by decide +kernel
theorem dL_send_11 : decode cL_send 11 = .ok (.ldc 18, 2) := by decide +kernel
theorem dL_send_13 : decode cL_send 13 = .ok (.ireturn, 1) := by decide +kernel
theorem dL_sign_0 : decode cL_sign 0 = .ok (.aload_n 0, 1) := by decide +kernel
theorem dL_sign_1 : decode cL_sign 1 = .ok (.iload_n 1, 1) := by decide +kernel
theorem dL_sign_2 : decode cL_sign 2 = .ok (.iload_n 2, 1) := by decide +kernel
theorem dL_sign_3 : decode cL_sign 3 = .ok (.iload_n 3, 1) := by decide +kernel
theorem dL_sign_4 : decode cL_sign 4 = .ok (.invokevirtual 41, 3) := by decide +kernel
theorem dL_sign_7 : decode cL_sign 7 = .ok (.ireturn, 1) := by decide +kernel
theorem dL_sign_8 : decode cL_sign 8 = .ok (.astore 4, 2) := by decide +kernel
theorem dL_sign_10 : decode cL_sign 10 = .ok (.ldc 25, 2) := by decide +kernel
theorem dL_sign_12 : decode cL_sign 12 = .ok (.ireturn, 1) := by decide +kernel
theorem dL_sign_13 : decode cL_sign 13 = .ok (.astore 4, 2) := by decide +kernel
theorem dL_sign_15 : decode cL_sign 15 = .ok (.ldc 18, 2) := by decide +kernel
theorem dL_sign_17 : decode cL_sign 17 = .ok (.ireturn, 1) := by decide +kernel
theorem dL_whyNot_0 : decode cL_whyNot 0 = .ok (.aload_n 0, 1) := by decide +kernel
theorem dL_whyNot_1 : decode cL_whyNot 1 = .ok (.iload_n 1, 1) := by decide +kernel
theorem dL_whyNot_2 : decode cL_whyNot 2 = .ok (.iload_n 2, 1) := by decide +kernel
theorem dL_whyNot_3 : decode cL_whyNot 3 = .ok (.iload_n 3, 1) := by decide +kernel
theorem dL_whyNot_4 : decode cL_whyNot 4 = .ok (.invokevirtual 44, 3) := by decide +kernel
theorem dL_whyNot_7 : decode cL_whyNot 7 = .ok (.ireturn, 1) := by decide +kernel
theorem dL_whyNot_8 : decode cL_whyNot 8 = .ok (.astore 4, 2) := by decide +kernel
theorem dL_whyNot_10 : decode cL_whyNot 10 = .ok (.ldc 25, 2) := by decide +kernel
theorem dL_whyNot_12 : decode cL_whyNot 12 = .ok (.ireturn, 1) := by decide +kernel
theorem dL_decline_0 : decode cL_decline 0 = .ok (.aload_n 0, 1) := by decide +kernel
theorem dL_decline_1 : decode cL_decline 1 = .ok (.iload_n 1, 1) := by decide +kernel
theorem dL_decline_2 : decode cL_decline 2 = .ok (.iload_n 2, 1) := by decide +kernel
theorem dL_decline_3 : decode cL_decline 3 = .ok (.iload_n 3, 1) := by decide +kernel
theorem dL_decline_4 : decode cL_decline 4 = .ok (.invokevirtual 47, 3) := by decide +kernel
theorem dL_decline_7 : decode cL_decline 7 = .ok (.ireturn, 1) := by decide +kernel
theorem dL_decline_8 : decode cL_decline 8 = .ok (.astore 4, 2) := by decide +kernel
theorem dL_decline_10 : decode cL_decline 10 = .ok (.ldc 25, 2) := by decide +kernel
theorem dL_decline_12 : decode cL_decline 12 = .ok (.ireturn, 1) := by decide +kernel
theorem dL_decline_13 : decode cL_decline 13 = .ok (.astore 4, 2) := by decide +kernel
theorem dL_decline_15 : decode cL_decline 15 = .ok (.ldc 18, 2) := by decide +kernel
theorem dL_decline_17 : decode cL_decline 17 = .ok (.ireturn, 1) := by decide +kernel
theorem dL_cancel_0 : decode cL_cancel 0 = .ok (.aload_n 0, 1) := by decide +kernel
theorem dL_cancel_1 : decode cL_cancel 1 = .ok (.iload_n 1, 1) := by decide +kernel
theorem dL_cancel_2 : decode cL_cancel 2 = .ok (.invokevirtual 50, 3) := by decide +kernel
theorem dL_cancel_5 : decode cL_cancel 5 = .ok (.ireturn, 1) := by decide +kernel
theorem dL_cancel_6 : decode cL_cancel 6 = .ok (.astore_n 2, 1) := by decide +kernel
theorem dL_cancel_7 : decode cL_cancel 7 = .ok (.ldc 25, 2) := by decide +kernel
theorem dL_cancel_9 : decode cL_cancel 9 = .ok (.ireturn, 1) := by decide +kernel
theorem dL_cancel_10 : decode cL_cancel 10 = .ok (.astore_n 2, 1) := by decide +kernel
theorem dL_cancel_11 : decode cL_cancel 11 = .ok (.ldc 18, 2) := by decide +kernel
theorem dL_cancel_13 : decode cL_cancel 13 = .ok (.ireturn, 1) := by decide +kernel
theorem dL_delegate_0 : decode cL_delegate 0 = .ok (.aload_n 0, 1) := by decide +kernel
theorem dL_delegate_1 : decode cL_delegate 1 = .ok (.iload_n 1, 1) := by decide +kernel
theorem dL_delegate_2 : decode cL_delegate 2 = .ok (.iload_n 2, 1) := by decide +kernel
theorem dL_delegate_3 : decode cL_delegate 3 = .ok (.iload_n 3, 1) := by decide +kernel
theorem dL_delegate_4 : decode cL_delegate 4 = .ok (.iload 4, 2) := by decide +kernel
theorem dL_delegate_6 : decode cL_delegate 6 = .ok (.iload 5, 2) := by decide +kernel
theorem dL_delegate_8 : decode cL_delegate 8 = .ok (.invokevirtual 53, 3) := by decide +kernel
theorem dL_delegate_11 : decode cL_delegate 11 = .ok (.ireturn, 1) := by decide +kernel
theorem dL_delegate_12 : decode cL_delegate 12 = .ok (.astore 6, 2) := by decide +kernel
theorem dL_delegate_14 : decode cL_delegate 14 = .ok (.ldc 25, 2) := by decide +kernel
theorem dL_delegate_16 : decode cL_delegate 16 = .ok (.ireturn, 1) := by decide +kernel
theorem dL_delegate_17 : decode cL_delegate 17 = .ok (.astore 6, 2) := by decide +kernel
theorem dL_delegate_19 : decode cL_delegate 19 = .ok (.ldc 28, 2) := by decide +kernel
theorem dL_delegate_21 : decode cL_delegate 21 = .ok (.ireturn, 1) := by decide +kernel
theorem dL_revoke_0 : decode cL_revoke 0 = .ok (.aload_n 0, 1) := by decide +kernel
theorem dL_revoke_1 : decode cL_revoke 1 = .ok (.iload_n 1, 1) := by decide +kernel
theorem dL_revoke_2 : decode cL_revoke 2 = .ok (.invokevirtual 57, 3) := by decide +kernel
theorem dL_revoke_5 : decode cL_revoke 5 = .ok (.ireturn, 1) := by decide +kernel
theorem dL_revoke_6 : decode cL_revoke 6 = .ok (.astore_n 2, 1) := by decide +kernel
theorem dL_revoke_7 : decode cL_revoke 7 = .ok (.ldc 25, 2) := by decide +kernel
theorem dL_revoke_9 : decode cL_revoke 9 = .ok (.ireturn, 1) := by decide +kernel
theorem dL_revoke_10 : decode cL_revoke 10 = .ok (.astore_n 2, 1) := by decide +kernel
theorem dL_revoke_11 : decode cL_revoke 11 = .ok (.ldc 18, 2) := by decide +kernel
theorem dL_revoke_13 : decode cL_revoke 13 = .ok (.ireturn, 1) := by decide +kernel
theorem dL_delegateToday_0 : decode cL_delegateToday 0 = .ok (.aload_n 0, 1) := by decide +kernel
theorem dL_delegateToday_1 : decode cL_delegateToday 1 = .ok (.iload_n 1, 1) := by decide +kernel
theorem dL_delegateToday_2 : decode cL_delegateToday 2 = .ok (.invokevirtual 60, 3) := by decide +kernel
theorem dL_delegateToday_5 : decode cL_delegateToday 5 = .ok (.ireturn, 1) := by decide +kernel
theorem dL_delegateToday_6 : decode cL_delegateToday 6 = .ok (.astore_n 2, 1) := by decide +kernel
theorem dL_delegateToday_7 : decode cL_delegateToday 7 = .ok (.ldc 25, 2) := by decide +kernel
theorem dL_delegateToday_9 : decode cL_delegateToday 9 = .ok (.ireturn, 1) := by decide +kernel
theorem dL_signedFor_0 : decode cL_signedFor 0 = .ok (.aload_n 0, 1) := by decide +kernel
theorem dL_signedFor_1 : decode cL_signedFor 1 = .ok (.iload_n 1, 1) := by decide +kernel
theorem dL_signedFor_2 : decode cL_signedFor 2 = .ok (.invokevirtual 63, 3) := by decide +kernel
theorem dL_signedFor_5 : decode cL_signedFor 5 = .ok (.ireturn, 1) := by decide +kernel
theorem dL_signedFor_6 : decode cL_signedFor 6 = .ok (.astore_n 2, 1) := by decide +kernel
theorem dL_signedFor_7 : decode cL_signedFor 7 = .ok (.ldc 25, 2) := by decide +kernel
theorem dL_signedFor_9 : decode cL_signedFor 9 = .ok (.ireturn, 1) := by decide +kernel
theorem dL_toSign_0 : decode cL_toSign 0 = .ok (.aload_n 0, 1) := by decide +kernel
theorem dL_toSign_1 : decode cL_toSign 1 = .ok (.iload_n 1, 1) := by decide +kernel
theorem dL_toSign_2 : decode cL_toSign 2 = .ok (.invokevirtual 66, 3) := by decide +kernel
theorem dL_toSign_5 : decode cL_toSign 5 = .ok (.ireturn, 1) := by decide +kernel
theorem dL_toSign_6 : decode cL_toSign 6 = .ok (.astore_n 2, 1) := by decide +kernel
theorem dL_toSign_7 : decode cL_toSign 7 = .ok (.ldc 25, 2) := by decide +kernel
theorem dL_toSign_9 : decode cL_toSign 9 = .ok (.ireturn, 1) := by decide +kernel
theorem dL_pass_0 : decode cL_pass 0 = .ok (.aload_n 0, 1) := by decide +kernel
theorem dL_pass_1 : decode cL_pass 1 = .ok (.iload_n 1, 1) := by decide +kernel
theorem dL_pass_2 : decode cL_pass 2 = .ok (.invokevirtual 69, 3) := by decide +kernel
theorem dL_pass_5 : decode cL_pass 5 = .ok (.ireturn, 1) := by decide +kernel
theorem dL_pass_6 : decode cL_pass 6 = .ok (.astore_n 2, 1) := by decide +kernel
theorem dL_pass_7 : decode cL_pass 7 = .ok (.ldc 28, 2) := by decide +kernel
theorem dL_pass_9 : decode cL_pass 9 = .ok (.ireturn, 1) := by decide +kernel
theorem dL_nextReminder_0 : decode cL_nextReminder 0 = .ok (.aload_n 0, 1) := by decide +kernel
theorem dL_nextReminder_1 : decode cL_nextReminder 1 = .ok (.iload_n 1, 1) := by decide +kernel
theorem dL_nextReminder_2 : decode cL_nextReminder 2 = .ok (.invokevirtual 72, 3) := by decide +kernel
theorem dL_nextReminder_5 : decode cL_nextReminder 5 = .ok (.ireturn, 1) := by decide +kernel
theorem dL_nextReminder_6 : decode cL_nextReminder 6 = .ok (.astore_n 2, 1) := by decide +kernel
theorem dL_nextReminder_7 : decode cL_nextReminder 7 = .ok (.ldc 25, 2) := by decide +kernel
theorem dL_nextReminder_9 : decode cL_nextReminder 9 = .ok (.ireturn, 1) := by decide +kernel
theorem dL_state_0 : decode cL_state 0 = .ok (.aload_n 0, 1) := by decide +kernel
theorem dL_state_1 : decode cL_state 1 = .ok (.iload_n 1, 1) := by decide +kernel
theorem dL_state_2 : decode cL_state 2 = .ok (.invokevirtual 75, 3) := by decide +kernel
theorem dL_state_5 : decode cL_state 5 = .ok (.ireturn, 1) := by decide +kernel
theorem dL_state_6 : decode cL_state 6 = .ok (.astore_n 2, 1) := by decide +kernel
theorem dL_state_7 : decode cL_state 7 = .ok (.ldc 25, 2) := by decide +kernel
theorem dL_state_9 : decode cL_state 9 = .ok (.ireturn, 1) := by decide +kernel
theorem dL_slots_0 : decode cL_slots 0 = .ok (.aload_n 0, 1) := by decide +kernel
theorem dL_slots_1 : decode cL_slots 1 = .ok (.iload_n 1, 1) := by decide +kernel
theorem dL_slots_2 : decode cL_slots 2 = .ok (.invokevirtual 78, 3) := by decide +kernel
theorem dL_slots_5 : decode cL_slots 5 = .ok (.ireturn, 1) := by decide +kernel
theorem dL_slots_6 : decode cL_slots 6 = .ok (.astore_n 2, 1) := by decide +kernel
theorem dL_slots_7 : decode cL_slots 7 = .ok (.ldc 25, 2) := by decide +kernel
theorem dL_slots_9 : decode cL_slots 9 = .ok (.ireturn, 1) := by decide +kernel
theorem dL_slotState_0 : decode cL_slotState 0 = .ok (.aload_n 0, 1) := by decide +kernel
theorem dL_slotState_1 : decode cL_slotState 1 = .ok (.iload_n 1, 1) := by decide +kernel
theorem dL_slotState_2 : decode cL_slotState 2 = .ok (.iload_n 2, 1) := by decide +kernel
theorem dL_slotState_3 : decode cL_slotState 3 = .ok (.invokevirtual 81, 3) := by decide +kernel
theorem dL_slotState_6 : decode cL_slotState 6 = .ok (.ireturn, 1) := by decide +kernel
theorem dL_slotState_7 : decode cL_slotState 7 = .ok (.astore_n 3, 1) := by decide +kernel
theorem dL_slotState_8 : decode cL_slotState 8 = .ok (.ldc 25, 2) := by decide +kernel
theorem dL_slotState_10 : decode cL_slotState 10 = .ok (.ireturn, 1) := by decide +kernel
theorem dL_missing_0 : decode cL_missing 0 = .ok (.aload_n 0, 1) := by decide +kernel
theorem dL_missing_1 : decode cL_missing 1 = .ok (.iload_n 1, 1) := by decide +kernel
theorem dL_missing_2 : decode cL_missing 2 = .ok (.iload_n 2, 1) := by decide +kernel
theorem dL_missing_3 : decode cL_missing 3 = .ok (.invokevirtual 84, 3) := by decide +kernel
theorem dL_missing_6 : decode cL_missing 6 = .ok (.ireturn, 1) := by decide +kernel
theorem dL_missing_7 : decode cL_missing 7 = .ok (.astore_n 3, 1) := by decide +kernel
theorem dL_missing_8 : decode cL_missing 8 = .ok (.ldc 25, 2) := by decide +kernel
theorem dL_missing_10 : decode cL_missing 10 = .ok (.ireturn, 1) := by decide +kernel
theorem dL_share_0 : decode cL_share 0 = .ok (.aload_n 0, 1) := by decide +kernel
theorem dL_share_1 : decode cL_share 1 = .ok (.iload_n 1, 1) := by decide +kernel
theorem dL_share_2 : decode cL_share 2 = .ok (.invokevirtual 87, 3) := by decide +kernel
theorem dL_share_5 : decode cL_share 5 = .ok (.freturn, 1) := by decide +kernel
theorem dL_share_6 : decode cL_share 6 = .ok (.astore_n 2, 1) := by decide +kernel
theorem dL_share_7 : decode cL_share 7 = .ok (.ldc 91, 2) := by decide +kernel
theorem dL_share_9 : decode cL_share 9 = .ok (.freturn, 1) := by decide +kernel
theorem dL_ahead_0 : decode cL_ahead 0 = .ok (.aload_n 0, 1) := by decide +kernel
theorem dL_ahead_1 : decode cL_ahead 1 = .ok (.iload_n 1, 1) := by decide +kernel
theorem dL_ahead_2 : decode cL_ahead 2 = .ok (.iload_n 2, 1) := by decide +kernel
theorem dL_ahead_3 : decode cL_ahead 3 = .ok (.invokevirtual 92, 3) := by decide +kernel
theorem dL_ahead_6 : decode cL_ahead 6 = .ok (.ireturn, 1) := by decide +kernel
theorem dL_ahead_7 : decode cL_ahead 7 = .ok (.astore_n 3, 1) := by decide +kernel
theorem dL_ahead_8 : decode cL_ahead 8 = .ok (.ldc 25, 2) := by decide +kernel
theorem dL_ahead_10 : decode cL_ahead 10 = .ok (.ireturn, 1) := by decide +kernel
theorem dL_roundOf_0 : decode cL_roundOf 0 = .ok (.aload_n 0, 1) := by decide +kernel
theorem dL_roundOf_1 : decode cL_roundOf 1 = .ok (.iload_n 1, 1) := by decide +kernel
theorem dL_roundOf_2 : decode cL_roundOf 2 = .ok (.iload_n 2, 1) := by decide +kernel
theorem dL_roundOf_3 : decode cL_roundOf 3 = .ok (.invokevirtual 95, 3) := by decide +kernel
theorem dL_roundOf_6 : decode cL_roundOf 6 = .ok (.ireturn, 1) := by decide +kernel
theorem dL_roundOf_7 : decode cL_roundOf 7 = .ok (.astore_n 3, 1) := by decide +kernel
theorem dL_roundOf_8 : decode cL_roundOf 8 = .ok (.ldc 25, 2) := by decide +kernel
theorem dL_roundOf_10 : decode cL_roundOf 10 = .ok (.ireturn, 1) := by decide +kernel
theorem dL_orders_0 : decode cL_orders 0 = .ok (.aload_n 0, 1) := by decide +kernel
theorem dL_orders_1 : decode cL_orders 1 = .ok (.iload_n 1, 1) := by decide +kernel
theorem dL_orders_2 : decode cL_orders 2 = .ok (.invokevirtual 98, 3) := by decide +kernel
theorem dL_orders_5 : decode cL_orders 5 = .ok (.ireturn, 1) := by decide +kernel
theorem dL_orders_6 : decode cL_orders 6 = .ok (.astore_n 2, 1) := by decide +kernel
theorem dL_orders_7 : decode cL_orders 7 = .ok (.ldc 25, 2) := by decide +kernel
theorem dL_orders_9 : decode cL_orders 9 = .ok (.ireturn, 1) := by decide +kernel
theorem dL_ordersByAll_0 : decode cL_ordersByAll 0 = .ok (.aload_n 0, 1) := by decide +kernel
theorem dL_ordersByAll_1 : decode cL_ordersByAll 1 = .ok (.iload_n 1, 1) := by decide +kernel
theorem dL_ordersByAll_2 : decode cL_ordersByAll 2 = .ok (.invokevirtual 101, 3) := by decide +kernel
theorem dL_ordersByAll_5 : decode cL_ordersByAll 5 = .ok (.ireturn, 1) := by decide +kernel
theorem dL_ordersByAll_6 : decode cL_ordersByAll 6 = .ok (.astore_n 2, 1) := by decide +kernel
theorem dL_ordersByAll_7 : decode cL_ordersByAll 7 = .ok (.ldc 25, 2) := by decide +kernel
theorem dL_ordersByAll_9 : decode cL_ordersByAll 9 = .ok (.ireturn, 1) := by decide +kernel
theorem dL_ordersLeft_0 : decode cL_ordersLeft 0 = .ok (.aload_n 0, 1) := by decide +kernel
theorem dL_ordersLeft_1 : decode cL_ordersLeft 1 = .ok (.iload_n 1, 1) := by decide +kernel
theorem dL_ordersLeft_2 : decode cL_ordersLeft 2 = .ok (.invokevirtual 104, 3) := by decide +kernel
theorem dL_ordersLeft_5 : decode cL_ordersLeft 5 = .ok (.ireturn, 1) := by decide +kernel
theorem dL_ordersLeft_6 : decode cL_ordersLeft 6 = .ok (.astore_n 2, 1) := by decide +kernel
theorem dL_ordersLeft_7 : decode cL_ordersLeft 7 = .ok (.ldc 25, 2) := by decide +kernel
theorem dL_ordersLeft_9 : decode cL_ordersLeft 9 = .ok (.ireturn, 1) := by decide +kernel
theorem dL_events_0 : decode cL_events 0 = .ok (.aload_n 0, 1) := by decide +kernel
theorem dL_events_1 : decode cL_events 1 = .ok (.iload_n 1, 1) := by decide +kernel
theorem dL_events_2 : decode cL_events 2 = .ok (.invokevirtual 107, 3) := by decide +kernel
theorem dL_events_5 : decode cL_events 5 = .ok (.ireturn, 1) := by decide +kernel
theorem dL_events_6 : decode cL_events 6 = .ok (.astore_n 2, 1) := by decide +kernel
theorem dL_events_7 : decode cL_events 7 = .ok (.ldc 25, 2) := by decide +kernel
theorem dL_events_9 : decode cL_events 9 = .ok (.ireturn, 1) := by decide +kernel
theorem dL_kindOf_0 : decode cL_kindOf 0 = .ok (.aload_n 0, 1) := by decide +kernel
theorem dL_kindOf_1 : decode cL_kindOf 1 = .ok (.iload_n 1, 1) := by decide +kernel
theorem dL_kindOf_2 : decode cL_kindOf 2 = .ok (.iload_n 2, 1) := by decide +kernel
theorem dL_kindOf_3 : decode cL_kindOf 3 = .ok (.invokevirtual 110, 3) := by decide +kernel
theorem dL_kindOf_6 : decode cL_kindOf 6 = .ok (.ireturn, 1) := by decide +kernel
theorem dL_kindOf_7 : decode cL_kindOf 7 = .ok (.astore_n 3, 1) := by decide +kernel
theorem dL_kindOf_8 : decode cL_kindOf 8 = .ok (.ldc 25, 2) := by decide +kernel
theorem dL_kindOf_10 : decode cL_kindOf 10 = .ok (.ireturn, 1) := by decide +kernel
theorem dL_personOf_0 : decode cL_personOf 0 = .ok (.aload_n 0, 1) := by decide +kernel
theorem dL_personOf_1 : decode cL_personOf 1 = .ok (.iload_n 1, 1) := by decide +kernel
theorem dL_personOf_2 : decode cL_personOf 2 = .ok (.iload_n 2, 1) := by decide +kernel
theorem dL_personOf_3 : decode cL_personOf 3 = .ok (.invokevirtual 113, 3) := by decide +kernel
theorem dL_personOf_6 : decode cL_personOf 6 = .ok (.ireturn, 1) := by decide +kernel
theorem dL_personOf_7 : decode cL_personOf 7 = .ok (.astore_n 3, 1) := by decide +kernel
theorem dL_personOf_8 : decode cL_personOf 8 = .ok (.ldc 25, 2) := by decide +kernel
theorem dL_personOf_10 : decode cL_personOf 10 = .ok (.ireturn, 1) := by decide +kernel
theorem dL_dayOf_0 : decode cL_dayOf 0 = .ok (.aload_n 0, 1) := by decide +kernel
theorem dL_dayOf_1 : decode cL_dayOf 1 = .ok (.iload_n 1, 1) := by decide +kernel
theorem dL_dayOf_2 : decode cL_dayOf 2 = .ok (.iload_n 2, 1) := by decide +kernel
theorem dL_dayOf_3 : decode cL_dayOf 3 = .ok (.invokevirtual 116, 3) := by decide +kernel
theorem dL_dayOf_6 : decode cL_dayOf 6 = .ok (.ireturn, 1) := by decide +kernel
theorem dL_dayOf_7 : decode cL_dayOf 7 = .ok (.astore_n 3, 1) := by decide +kernel
theorem dL_dayOf_8 : decode cL_dayOf 8 = .ok (.ldc 25, 2) := by decide +kernel
theorem dL_dayOf_10 : decode cL_dayOf 10 = .ok (.ireturn, 1) := by decide +kernel
theorem dL_seal_0 : decode cL_seal 0 = .ok (.aload_n 0, 1) := by decide +kernel
theorem dL_seal_1 : decode cL_seal 1 = .ok (.iload_n 1, 1) := by decide +kernel
theorem dL_seal_2 : decode cL_seal 2 = .ok (.iload_n 2, 1) := by decide +kernel
theorem dL_seal_3 : decode cL_seal 3 = .ok (.invokevirtual 119, 3) := by decide +kernel
theorem dL_seal_6 : decode cL_seal 6 = .ok (.ireturn, 1) := by decide +kernel
theorem dL_seal_7 : decode cL_seal 7 = .ok (.astore_n 3, 1) := by decide +kernel
theorem dL_seal_8 : decode cL_seal 8 = .ok (.ldc 25, 2) := by decide +kernel
theorem dL_seal_10 : decode cL_seal 10 = .ok (.ireturn, 1) := by decide +kernel
theorem dL_stateBehind_0 : decode cL_stateBehind 0 = .ok (.aload_n 0, 1) := by decide +kernel
theorem dL_stateBehind_1 : decode cL_stateBehind 1 = .ok (.iload_n 1, 1) := by decide +kernel
theorem dL_stateBehind_2 : decode cL_stateBehind 2 = .ok (.iload_n 2, 1) := by decide +kernel
theorem dL_stateBehind_3 : decode cL_stateBehind 3 = .ok (.invokevirtual 122, 3) := by decide +kernel
theorem dL_stateBehind_6 : decode cL_stateBehind 6 = .ok (.ireturn, 1) := by decide +kernel
theorem dL_stateBehind_7 : decode cL_stateBehind 7 = .ok (.astore_n 3, 1) := by decide +kernel
theorem dL_stateBehind_8 : decode cL_stateBehind 8 = .ok (.ldc 25, 2) := by decide +kernel
theorem dL_stateBehind_10 : decode cL_stateBehind 10 = .ok (.ireturn, 1) := by decide +kernel
theorem dL_openBehind_0 : decode cL_openBehind 0 = .ok (.aload_n 0, 1) := by decide +kernel
theorem dL_openBehind_1 : decode cL_openBehind 1 = .ok (.iload_n 1, 1) := by decide +kernel
theorem dL_openBehind_2 : decode cL_openBehind 2 = .ok (.iload_n 2, 1) := by decide +kernel
theorem dL_openBehind_3 : decode cL_openBehind 3 = .ok (.invokevirtual 125, 3) := by decide +kernel
theorem dL_openBehind_6 : decode cL_openBehind 6 = .ok (.ireturn, 1) := by decide +kernel
theorem dL_openBehind_7 : decode cL_openBehind 7 = .ok (.astore_n 3, 1) := by decide +kernel
theorem dL_openBehind_8 : decode cL_openBehind 8 = .ok (.ldc 25, 2) := by decide +kernel
theorem dL_openBehind_10 : decode cL_openBehind 10 = .ok (.ireturn, 1) := by decide +kernel
theorem dL_many_0 : decode cL_many 0 = .ok (.iconst 0, 1) := by decide +kernel
theorem dL_many_1 : decode cL_many 1 = .ok (.istore_n 1, 1) := by decide +kernel
theorem dL_many_2 : decode cL_many 2 = .ok (.iconst 0, 1) := by decide +kernel
theorem dL_many_3 : decode cL_many 3 = .ok (.istore_n 2, 1) := by decide +kernel
theorem dL_many_4 : decode cL_many 4 = .ok (.iload_n 2, 1) := by decide +kernel
theorem dL_many_5 : decode cL_many 5 = .ok (.bipush 8, 2) := by decide +kernel
theorem dL_many_7 : decode cL_many 7 = .ok (.if_icmp .ge 17, 3) := by decide +kernel
theorem dL_many_10 : decode cL_many 10 = .ok (.iload_n 1, 1) := by decide +kernel
theorem dL_many_11 : decode cL_many 11 = .ok (.iload_n 0, 1) := by decide +kernel
theorem dL_many_12 : decode cL_many 12 = .ok (.iload_n 2, 1) := by decide +kernel
theorem dL_many_13 : decode cL_many 13 = .ok (.ishr, 1) := by decide +kernel
theorem dL_many_14 : decode cL_many 14 = .ok (.iconst 1, 1) := by decide +kernel
theorem dL_many_15 : decode cL_many 15 = .ok (.iand, 1) := by decide +kernel
theorem dL_many_16 : decode cL_many 16 = .ok (.iadd, 1) := by decide +kernel
theorem dL_many_17 : decode cL_many 17 = .ok (.istore_n 1, 1) := by decide +kernel
theorem dL_many_18 : decode cL_many 18 = .ok (.iinc 2 1, 3) := by decide +kernel
theorem dL_many_21 : decode cL_many 21 = .ok (.goto (-17), 3) := by decide +kernel
theorem dL_many_24 : decode cL_many 24 = .ok (.iload_n 1, 1) := by decide +kernel
theorem dL_many_25 : decode cL_many 25 = .ok (.ireturn, 1) := by decide +kernel
