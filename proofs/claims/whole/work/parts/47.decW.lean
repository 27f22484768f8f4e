theorem dL_draft_0 : decode cL_draft 0 = .ok (.aload_n 1, 1) := by decide +kernel
theorem dL_draft_1 : decode cL_draft 1 = .ok (.iconst 0, 1) := by decide +kernel
theorem dL_draft_2 : decode cL_draft 2 = .ok (.aload_n 0, 1) := by decide +kernel
theorem dL_draft_3 : decode cL_draft 3 = .ok (.invokevirtual 7, 3) := by decide +kernel
theorem dL_draft_6 : decode cL_draft 6 = .ok (.i2l, 1) := by decide +kernel
theorem dL_draft_7 : decode cL_draft 7 = .ok (.lastore, 1) := by decide +kernel
theorem dL_draft_8 : decode cL_draft 8 = .ok (.goto 6, 3) := by decide +kernel
theorem dL_draft_11 : decode cL_draft 11 = .ok (.astore_n 2, 1) := by decide +kernel
theorem dL_draft_12 : decode cL_draft 12 = .ok (.iconst 1, 1) := by decide +kernel
theorem dL_draft_13 : decode cL_draft 13 = .ok (.ireturn, 1) := by decide +kernel
theorem dL_draft_14 : decode cL_draft 14 = .ok (.iconst 0, 1) := by decide +kernel
theorem dL_draft_15 : decode cL_draft 15 = .ok (.ireturn, 1) := by decide +kernel
theorem dL_addSlot_0 : decode cL_addSlot 0 = .ok (.aload 4, 2) := by decide +kernel
theorem dL_addSlot_2 : decode cL_addSlot 2 = .ok (.iconst 0, 1) := by decide +kernel
theorem dL_addSlot_3 : decode cL_addSlot 3 = .ok (.aload_n 0, 1) := by decide +kernel
theorem dL_addSlot_4 : decode cL_addSlot 4 = .ok (.iload_n 1, 1) := by decide +kernel
theorem dL_addSlot_5 : decode cL_addSlot 5 = .ok (.iload_n 2, 1) := by decide +kernel
theorem dL_addSlot_6 : decode cL_addSlot 6 = .ok (.iload_n 3, 1) := by decide +kernel
theorem dL_addSlot_7 : decode cL_addSlot 7 = .ok (.invokevirtual 15, 3) := by decide +kernel
theorem dL_addSlot_10 : decode cL_addSlot 10 = .ok (.i2l, 1) := by decide +kernel
theorem dL_addSlot_11 : decode cL_addSlot 11 = .ok (.lastore, 1) := by decide +kernel
theorem dL_addSlot_12 : decode cL_addSlot 12 = .ok (.goto 15, 3) := by decide +kernel
theorem dL_addSlot_15 : decode cL_addSlot 15 = .ok (.astore 5, 2) := by decide +kernel
theorem dL_addSlot_17 : decode cL_addSlot 17 = .ok (.iconst 1, 1) := by decide +kernel
theorem dL_addSlot_18 : decode cL_addSlot 18 = .ok (.ireturn, 1) := by decide +kernel
theorem dL_addSlot_19 : decode cL_addSlot 19 = .ok (.astore 5, 2) := by decide +kernel
theorem dL_addSlot_21 : decode cL_addSlot 21 = .ok (.iconst 2, 1) := by decide +kernel
theorem dL_addSlot_22 : decode cL_addSlot 22 = .ok (.ireturn, 1) := by decide +kernel
theorem dL_addSlot_23 : decode cL_addSlot 23 = .ok (.astore 5, 2) := by decide +kernel
theorem dL_addSlot_25 : decode cL_addSlot 25 = .ok (.iconst 3, 1) := by decide +kernel
theorem dL_addSlot_26 : decode cL_addSlot 26 = .ok (.ireturn, 1) := by decide +kernel
theorem dL_addSlot_27 : decode cL_addSlot 27 = .ok (.iconst 0, 1) := by decide +kernel
theorem dL_addSlot_28 : decode cL_addSlot 28 = .ok (.ireturn, 1) := by decide +kernel
theorem dL_addRound_0 : decode cL_addRound 0 = .ok (.aload_n 3, 1) := by decide +kernel
theorem dL_addRound_1 : decode cL_addRound 1 = .ok (.iconst 0, 1) := by decide +kernel
theorem dL_addRound_2 : decode cL_addRound 2 = .ok (.aload_n 0, 1) := by decide +kernel
theorem dL_addRound_3 : decode cL_addRound 3 = .ok (.iload_n 1, 1) := by decide +kernel
theorem dL_addRound_4 : decode cL_addRound 4 = .ok (.iload_n 2, 1) := by decide +kernel
theorem dL_addRound_5 : decode cL_addRound 5 = .ok (.invokevirtual 23, 3) := by decide +kernel
theorem dL_addRound_8 : decode cL_addRound 8 = .ok (.i2l, 1) := by decide +kernel
theorem dL_addRound_9 : decode cL_addRound 9 = .ok (.lastore, 1) := by decide +kernel
theorem dL_addRound_10 : decode cL_addRound 10 = .ok (.goto 15, 3) := by decide +kernel
theorem dL_addRound_13 : decode cL_addRound 13 = .ok (.astore 4, 2) := by decide +kernel
theorem dL_addRound_15 : decode cL_addRound 15 = .ok (.iconst 1, 1) := by decide +kernel
theorem dL_addRound_16 : decode cL_addRound 16 = .ok (.ireturn, 1) := by decide +kernel
theorem dL_addRound_17 : decode cL_addRound 17 = .ok (.astore 4, 2) := by decide +kernel
theorem dL_addRound_19 : decode cL_addRound 19 = .ok (.iconst 2, 1) := by decide +kernel
theorem dL_addRound_20 : decode cL_addRound 20 = .ok (.ireturn, 1) := by decide +kernel
theorem dL_addRound_21 : decode cL_addRound 21 = .ok (.astore 4, 2) := by decide +kernel
theorem dL_addRound_23 : decode cL_addRound 23 = .ok (.iconst 3, 1) := by decide +kernel
theorem dL_addRound_24 : decode cL_addRound 24 = .ok (.ireturn, 1) := by decide +kernel
theorem dL_addRound_25 : decode cL_addRound 25 = .ok (.iconst 0, 1) := by decide +kernel
theorem dL_addRound_26 : decode cL_addRound 26 = .ok (.ireturn, 1) := by decide +kernel
theorem dL_setTimes_0 : decode cL_setTimes 0 = .ok (.aload_n 0, 1) := by decide +kernel
theorem dL_setTimes_1 : decode cL_setTimes 1 = .ok (.iload_n 1, 1) := by decide +kernel
theorem dL_setTimes_2 : decode cL_setTimes 2 = .ok (.iload_n 2, 1) := by decide +kernel
theorem dL_setTimes_3 : decode cL_setTimes 3 = .ok (.iload_n 3, 1) := by decide +kernel
theorem dL_setTimes_4 : decode cL_setTimes 4 = .ok (.invokevirtual 27, 3) := by decide +kernel
theorem dL_setTimes_7 : decode cL_setTimes 7 = .ok (.goto 15, 3) := by decide +kernel
theorem dL_setTimes_10 : decode cL_setTimes 10 = .ok (.astore 4, 2) := by decide +kernel
theorem dL_setTimes_12 : decode cL_setTimes 12 = .ok (.iconst 1, 1) := by decide +kernel
theorem dL_setTimes_13 : decode cL_setTimes 13 = .ok (.ireturn, 1) := by decide +kernel
theorem dL_setTimes_14 : decode cL_setTimes 14 = .ok (.astore 4, 2) := by decide +kernel
theorem dL_setTimes_16 : decode cL_setTimes 16 = .ok (.iconst 2, 1) := by decide +kernel
theorem dL_setTimes_17 : decode cL_setTimes 17 = .ok (.ireturn, 1) := by decide +kernel
theorem dL_setTimes_18 : decode cL_setTimes 18 = .ok (.astore 4, 2) := by decide +kernel
theorem dL_setTimes_20 : decode cL_setTimes 20 = .ok (.iconst 3, 1) := by decide +kernel
theorem dL_setTimes_21 : decode cL_setTimes 21 = .ok (.ireturn, 1) := by decide +kernel
theorem dL_setTimes_22 : decode cL_setTimes 22 = .ok (.iconst 0, 1) := by decide +kernel
theorem dL_setTimes_23 : decode cL_setTimes 23 = .ok (.ireturn, 1) := by decide +kernel
theorem dL_send_0 : decode cL_send 0 = .ok (.aload_n 2, 1) := by decide +kernel
theorem dL_send_1 : decode cL_send 1 = .ok (.iconst 0, 1) := by decide +kernel
theorem dL_send_2 : decode cL_send 2 = .ok (.aload_n 0, 1) := by decide +kernel
theorem dL_send_3 : decode cL_send 3 = .ok (.iload_n 1, 1) := by decide +kernel
theorem dL_send_4 : decode cL_send 4 = .ok (.invokevirtual 31, 3) := by decide +kernel
theorem dL_send_7 : decode cL_send 7 = .ok (.i2l, 1) := by decide +kernel
theorem dL_send_8 : decode cL_send 8 = .ok (.lastore, 1) := by decide +kernel
theorem dL_send_9 : decode cL_send 9 = .ok (.goto 9, 3) := by decide +kernel
theorem dL_send_12 : decode cL_send 12 = .ok (.astore_n 3, 1) := by decide +kernel
theorem dL_send_13 : decode cL_send 13 = .ok (.iconst 1, 1) := by decide +kernel
theorem dL_send_14 : decode cL_send 14 = .ok (.ireturn, 1) := by decide +kernel
theorem dL_send_15 : decode cL_send 15 = .ok (.astore_n 3, 1) := by decide +kernel
theorem dL_send_16 : decode cL_send 16 = .ok (.iconst 2, 1) := by decide +kernel
theorem dL_send_17 : decode cL_send 17 = .ok (.ireturn, 1) := by decide +kernel
theorem dL_send_18 : decode cL_send 18 = .ok (.iconst 0, 1) := by decide +kernel
theorem dL_send_19 : decode cL_send 19 = .ok (.ireturn, 1) := by decide +kernel
theorem dL_sign_0 : decode cL_sign 0 = .ok (.aload 4, 2) := by decide +kernel
theorem dL_sign_2 : decode cL_sign 2 = .ok (.iconst 0, 1) := by decide +kernel
theorem dL_sign_3 : decode cL_sign 3 = .ok (.aload_n 0, 1) := by decide +kernel
theorem dL_sign_4 : decode cL_sign 4 = .ok (.iload_n 1, 1) := by decide +kernel
theorem dL_sign_5 : decode cL_sign 5 = .ok (.iload_n 2, 1) := by decide +kernel
theorem dL_sign_6 : decode cL_sign 6 = .ok (.iload_n 3, 1) := by decide +kernel
theorem dL_sign_7 : decode cL_sign 7 = .ok (.invokevirtual 35, 3) := by decide +kernel
theorem dL_sign_10 : decode cL_sign 10 = .ok (.i2l, 1) := by decide +kernel
theorem dL_sign_11 : decode cL_sign 11 = .ok (.lastore, 1) := by decide +kernel
theorem dL_sign_12 : decode cL_sign 12 = .ok (.goto 11, 3) := by decide +kernel
theorem dL_sign_15 : decode cL_sign 15 = .ok (.astore 5, 2) := by decide +kernel
theorem dL_sign_17 : decode cL_sign 17 = .ok (.iconst 1, 1) := by decide +kernel
theorem dL_sign_18 : decode cL_sign 18 = .ok (.ireturn, 1) := by decide +kernel
theorem dL_sign_19 : decode cL_sign 19 = .ok (.astore 5, 2) := by decide +kernel
theorem dL_sign_21 : decode cL_sign 21 = .ok (.iconst 2, 1) := by decide +kernel
theorem dL_sign_22 : decode cL_sign 22 = .ok (.ireturn, 1) := by decide +kernel
theorem dL_sign_23 : decode cL_sign 23 = .ok (.iconst 0, 1) := by decide +kernel
theorem dL_sign_24 : decode cL_sign 24 = .ok (.ireturn, 1) := by decide +kernel
theorem dL_whyNot_0 : decode cL_whyNot 0 = .ok (.aload 4, 2) := by decide +kernel
theorem dL_whyNot_2 : decode cL_whyNot 2 = .ok (.iconst 0, 1) := by decide +kernel
theorem dL_whyNot_3 : decode cL_whyNot 3 = .ok (.aload_n 0, 1) := by decide +kernel
theorem dL_whyNot_4 : decode cL_whyNot 4 = .ok (.iload_n 1, 1) := by decide +kernel
theorem dL_whyNot_5 : decode cL_whyNot 5 = .ok (.iload_n 2, 1) := by decide +kernel
theorem dL_whyNot_6 : decode cL_whyNot 6 = .ok (.iload_n 3, 1) := by decide +kernel
theorem dL_whyNot_7 : decode cL_whyNot 7 = .ok (.invokevirtual 38, 3) := by decide +kernel
theorem dL_whyNot_10 : decode cL_whyNot 10 = .ok (.i2l, 1) := by decide +kernel
theorem dL_whyNot_11 : decode cL_whyNot 11 = .ok (.lastore, 1) := by decide +kernel
theorem dL_whyNot_12 : decode cL_whyNot 12 = .ok (.goto 7, 3) := by decide +kernel
theorem dL_whyNot_15 : decode cL_whyNot 15 = .ok (.astore 5, 2) := by decide +kernel
theorem dL_whyNot_17 : decode cL_whyNot 17 = .ok (.iconst 1, 1) := by decide +kernel
theorem dL_whyNot_18 : decode cL_whyNot 18 = .ok (.ireturn, 1) := by decide +kernel
theorem dL_whyNot_19 : decode cL_whyNot 19 = .ok (.iconst 0, 1) := by decide +kernel
theorem dL_whyNot_20 : decode cL_whyNot 20 = .ok (.ireturn, 1) := by decide +kernel
theorem dL_decline_0 : decode cL_decline 0 = .ok (.aload 4, 2) := by decide +kernel
theorem dL_decline_2 : decode cL_decline 2 = .ok (.iconst 0, 1) := by decide +kernel
theorem dL_decline_3 : decode cL_decline 3 = .ok (.aload_n 0, 1) := by decide +kernel
theorem dL_decline_4 : decode cL_decline 4 = .ok (.iload_n 1, 1) := by decide +kernel
theorem dL_decline_5 : decode cL_decline 5 = .ok (.iload_n 2, 1) := by decide +kernel
theorem dL_decline_6 : decode cL_decline 6 = .ok (.iload_n 3, 1) := by decide +kernel
theorem dL_decline_7 : decode cL_decline 7 = .ok (.invokevirtual 41, 3) := by decide +kernel
theorem dL_decline_10 : decode cL_decline 10 = .ok (.i2l, 1) := by decide +kernel
theorem dL_decline_11 : decode cL_decline 11 = .ok (.lastore, 1) := by decide +kernel
theorem dL_decline_12 : decode cL_decline 12 = .ok (.goto 11, 3) := by decide +kernel
theorem dL_decline_15 : decode cL_decline 15 = .ok (.astore 5, 2) := by decide +kernel
theorem dL_decline_17 : decode cL_decline 17 = .ok (.iconst 1, 1) := by decide +kernel
theorem dL_decline_18 : decode cL_decline 18 = .ok (.ireturn, 1) := by decide +kernel
theorem dL_decline_19 : decode cL_decline 19 = .ok (.astore 5, 2) := by decide +kernel
theorem dL_decline_21 : decode cL_decline 21 = .ok (.iconst 2, 1) := by decide +kernel
theorem dL_decline_22 : decode cL_decline 22 = .ok (.ireturn, 1) := by decide +kernel
theorem dL_decline_23 : decode cL_decline 23 = .ok (.iconst 0, 1) := by decide +kernel
theorem dL_decline_24 : decode cL_decline 24 = .ok (.ireturn, 1) := by decide +kernel
theorem dL_cancel_0 : decode cL_cancel 0 = .ok (.aload_n 2, 1) := by decide +kernel
theorem dL_cancel_1 : decode cL_cancel 1 = .ok (.iconst 0, 1) := by decide +kernel
theorem dL_cancel_2 : decode cL_cancel 2 = .ok (.aload_n 0, 1) := by decide +kernel
theorem dL_cancel_3 : decode cL_cancel 3 = .ok (.iload_n 1, 1) := by decide +kernel
theorem dL_cancel_4 : decode cL_cancel 4 = .ok (.invokevirtual 44, 3) := by decide +kernel
theorem dL_cancel_7 : decode cL_cancel 7 = .ok (.i2l, 1) := by decide +kernel
theorem dL_cancel_8 : decode cL_cancel 8 = .ok (.lastore, 1) := by decide +kernel
theorem dL_cancel_9 : decode cL_cancel 9 = .ok (.goto 9, 3) := by decide +kernel
theorem dL_cancel_12 : decode cL_cancel 12 = .ok (.astore_n 3, 1) := by decide +kernel
theorem dL_cancel_13 : decode cL_cancel 13 = .ok (.iconst 1, 1) := by decide +kernel
theorem dL_cancel_14 : decode cL_cancel 14 = .ok (.ireturn, 1) := by decide +kernel
theorem dL_cancel_15 : decode cL_cancel 15 = .ok (.astore_n 3, 1) := by decide +kernel
theorem dL_cancel_16 : decode cL_cancel 16 = .ok (.iconst 2, 1) := by decide +kernel
theorem dL_cancel_17 : decode cL_cancel 17 = .ok (.ireturn, 1) := by decide +kernel
theorem dL_cancel_18 : decode cL_cancel 18 = .ok (.iconst 0, 1) := by decide +kernel
theorem dL_cancel_19 : decode cL_cancel 19 = .ok (.ireturn, 1) := by decide +kernel
theorem dL_delegate_0 : decode cL_delegate 0 = .ok (.aload 6, 2) := by decide +kernel
theorem dL_delegate_2 : decode cL_delegate 2 = .ok (.iconst 0, 1) := by decide +kernel
theorem dL_delegate_3 : decode cL_delegate 3 = .ok (.aload_n 0, 1) := by decide +kernel
theorem dL_delegate_4 : decode cL_delegate 4 = .ok (.iload_n 1, 1) := by decide +kernel
theorem dL_delegate_5 : decode cL_delegate 5 = .ok (.iload_n 2, 1) := by decide +kernel
theorem dL_delegate_6 : decode cL_delegate 6 = .ok (.iload_n 3, 1) := by decide +kernel
theorem dL_delegate_7 : decode cL_delegate 7 = .ok (.iload 4, 2) := by decide +kernel
theorem dL_delegate_9 : decode cL_delegate 9 = .ok (.iload 5, 2) := by decide +kernel
theorem dL_delegate_11 : decode cL_delegate 11 = .ok (.invokevirtual 47, 3) := by decide +kernel
theorem dL_delegate_14 : decode cL_delegate 14 = .ok (.i2l, 1) := by decide +kernel
theorem dL_delegate_15 : decode cL_delegate 15 = .ok (.lastore, 1) := by decide +kernel
theorem dL_delegate_16 : decode cL_delegate 16 = .ok (.goto 11, 3) := by decide +kernel
theorem dL_delegate_19 : decode cL_delegate 19 = .ok (.astore 7, 2) := by decide +kernel
theorem dL_delegate_21 : decode cL_delegate 21 = .ok (.iconst 1, 1) := by decide +kernel
theorem dL_delegate_22 : decode cL_delegate 22 = .ok (.ireturn, 1) := by decide +kernel
theorem dL_delegate_23 : decode cL_delegate 23 = .ok (.astore 7, 2) := by decide +kernel
theorem dL_delegate_25 : decode cL_delegate 25 = .ok (.iconst 2, 1) := by decide +kernel
theorem dL_delegate_26 : decode cL_delegate 26 = .ok (.ireturn, 1) := by decide +kernel
theorem dL_delegate_27 : decode cL_delegate 27 = .ok (.iconst 0, 1) := by decide +kernel
theorem dL_delegate_28 : decode cL_delegate 28 = .ok (.ireturn, 1) := by decide +kernel
theorem dL_revoke_0 : decode cL_revoke 0 = .ok (.aload_n 2, 1) := by decide +kernel
theorem dL_revoke_1 : decode cL_revoke 1 = .ok (.iconst 0, 1) := by decide +kernel
theorem dL_revoke_2 : decode cL_revoke 2 = .ok (.aload_n 0, 1) := by decide +kernel
theorem dL_revoke_3 : decode cL_revoke 3 = .ok (.iload_n 1, 1) := by decide +kernel
theorem dL_revoke_4 : decode cL_revoke 4 = .ok (.invokevirtual 51, 3) := by decide +kernel
theorem dL_revoke_7 : decode cL_revoke 7 = .ok (.i2l, 1) := by decide +kernel
theorem dL_revoke_8 : decode cL_revoke 8 = .ok (.lastore, 1) := by decide +kernel
theorem dL_revoke_9 : decode cL_revoke 9 = .ok (.goto 9, 3) := by decide +kernel
theorem dL_revoke_12 : decode cL_revoke 12 = .ok (.astore_n 3, 1) := by decide +kernel
theorem dL_revoke_13 : decode cL_revoke 13 = .ok (.iconst 1, 1) := by decide +kernel
theorem dL_revoke_14 : decode cL_revoke 14 = .ok (.ireturn, 1) := by decide +kernel
theorem dL_revoke_15 : decode cL_revoke 15 = .ok (.astore_n 3, 1) := by decide +kernel
theorem dL_revoke_16 : decode cL_revoke 16 = .ok (.iconst 2, 1) := by decide +kernel
theorem dL_revoke_17 : decode cL_revoke 17 = .ok (.ireturn, 1) := by decide +kernel
theorem dL_revoke_18 : decode cL_revoke 18 = .ok (.iconst 0, 1) := by decide +kernel
theorem dL_revoke_19 : decode cL_revoke 19 = .ok (.ireturn, 1) := by decide +kernel
theorem dL_delegateToday_0 : decode cL_delegateToday 0 = .ok (.aload_n 2, 1) := by decide +kernel
theorem dL_delegateToday_1 : decode cL_delegateToday 1 = .ok (.iconst 0, 1) := by decide +kernel
theorem dL_delegateToday_2 : decode cL_delegateToday 2 = .ok (.aload_n 0, 1) := by decide +kernel
theorem dL_delegateToday_3 : decode cL_delegateToday 3 = .ok (.iload_n 1, 1) := by decide +kernel
theorem dL_delegateToday_4 : decode cL_delegateToday 4 = .ok (.invokevirtual 54, 3) := by decide +kernel
theorem dL_delegateToday_7 : decode cL_delegateToday 7 = .ok (.i2l, 1) := by decide +kernel
theorem dL_delegateToday_8 : decode cL_delegateToday 8 = .ok (.lastore, 1) := by decide +kernel
theorem dL_delegateToday_9 : decode cL_delegateToday 9 = .ok (.goto 6, 3) := by decide +kernel
theorem dL_delegateToday_12 : decode cL_delegateToday 12 = .ok (.astore_n 3, 1) := by decide +kernel
theorem dL_delegateToday_13 : decode cL_delegateToday 13 = .ok (.iconst 1, 1) := by decide +kernel
theorem dL_delegateToday_14 : decode cL_delegateToday 14 = .ok (.ireturn, 1) := by decide +kernel
theorem dL_delegateToday_15 : decode cL_delegateToday 15 = .ok (.iconst 0, 1) := by decide +kernel
theorem dL_delegateToday_16 : decode cL_delegateToday 16 = .ok (.ireturn, 1) := by decide +kernel
theorem dL_signedFor_0 : decode cL_signedFor 0 = .ok (.aload_n 2, 1) := by decide +kernel
theorem dL_signedFor_1 : decode cL_signedFor 1 = .ok (.iconst 0, 1) := by decide +kernel
theorem dL_signedFor_2 : decode cL_signedFor 2 = .ok (.aload_n 0, 1) := by decide +kernel
theorem dL_signedFor_3 : decode cL_signedFor 3 = .ok (.iload_n 1, 1) := by decide +kernel
theorem dL_signedFor_4 : decode cL_signedFor 4 = .ok (.invokevirtual 57, 3) := by decide +kernel
theorem dL_signedFor_7 : decode cL_signedFor 7 = .ok (.i2l, 1) := by decide +kernel
theorem dL_signedFor_8 : decode cL_signedFor 8 = .ok (.lastore, 1) := by decide +kernel
theorem dL_signedFor_9 : decode cL_signedFor 9 = .ok (.goto 6, 3) := by decide +kernel
theorem dL_signedFor_12 : decode cL_signedFor 12 = .ok (.astore_n 3, 1) := by decide +kernel
theorem dL_signedFor_13 : decode cL_signedFor 13 = .ok (.iconst 1, 1) := by decide +kernel
theorem dL_signedFor_14 : decode cL_signedFor 14 = .ok (.ireturn, 1) := by decide +kernel
theorem dL_signedFor_15 : decode cL_signedFor 15 = .ok (.iconst 0, 1) := by decide +kernel
theorem dL_signedFor_16 : decode cL_signedFor 16 = .ok (.ireturn, 1) := by decide +kernel
theorem dL_toSign_0 : decode cL_toSign 0 = .ok (.aload_n 2, 1) := by decide +kernel
theorem dL_toSign_1 : decode cL_toSign 1 = .ok (.iconst 0, 1) := by decide +kernel
theorem dL_toSign_2 : decode cL_toSign 2 = .ok (.aload_n 0, 1) := by decide +kernel
theorem dL_toSign_3 : decode cL_toSign 3 = .ok (.iload_n 1, 1) := by decide +kernel
theorem dL_toSign_4 : decode cL_toSign 4 = .ok (.invokevirtual 60, 3) := by decide +kernel
theorem dL_toSign_7 : decode cL_toSign 7 = .ok (.i2l, 1) := by decide +kernel
theorem dL_toSign_8 : decode cL_toSign 8 = .ok (.lastore, 1) := by decide +kernel
theorem dL_toSign_9 : decode cL_toSign 9 = .ok (.goto 6, 3) := by decide +kernel
theorem dL_toSign_12 : decode cL_toSign 12 = .ok (.astore_n 3, 1) := by decide +kernel
theorem dL_toSign_13 : decode cL_toSign 13 = .ok (.iconst 1, 1) := by decide +kernel
theorem dL_toSign_14 : decode cL_toSign 14 = .ok (.ireturn, 1) := by decide +kernel
theorem dL_toSign_15 : decode cL_toSign 15 = .ok (.iconst 0, 1) := by decide +kernel
theorem dL_toSign_16 : decode cL_toSign 16 = .ok (.ireturn, 1) := by decide +kernel
theorem dL_pass_0 : decode cL_pass 0 = .ok (.aload_n 2, 1) := by decide +kernel
theorem dL_pass_1 : decode cL_pass 1 = .ok (.iconst 0, 1) := by decide +kernel
theorem dL_pass_2 : decode cL_pass 2 = .ok (.aload_n 0, 1) := by decide +kernel
theorem dL_pass_3 : decode cL_pass 3 = .ok (.iload_n 1, 1) := by decide +kernel
theorem dL_pass_4 : decode cL_pass 4 = .ok (.invokevirtual 63, 3) := by decide +kernel
theorem dL_pass_7 : decode cL_pass 7 = .ok (.i2l, 1) := by decide +kernel
theorem dL_pass_8 : decode cL_pass 8 = .ok (.lastore, 1) := by decide +kernel
theorem dL_pass_9 : decode cL_pass 9 = .ok (.goto 6, 3) := by decide +kernel
theorem dL_pass_12 : decode cL_pass 12 = .ok (.astore_n 3, 1) := by decide +kernel
theorem dL_pass_13 : decode cL_pass 13 = .ok (.iconst 1, 1) := by decide +kernel
theorem dL_pass_14 : decode cL_pass 14 = .ok (.ireturn, 1) := by decide +kernel
theorem dL_pass_15 : decode cL_pass 15 = .ok (.iconst 0, 1) := by decide +kernel
theorem dL_pass_16 : decode cL_pass 16 = .ok (.ireturn, 1) := by decide +kernel
theorem dL_nextReminder_0 : decode cL_nextReminder 0 = .ok (.aload_n 2, 1) := by decide +kernel
theorem dL_nextReminder_1 : decode cL_nextReminder 1 = .ok (.iconst 0, 1) := by decide +kernel
theorem dL_nextReminder_2 : decode cL_nextReminder 2 = .ok (.aload_n 0, 1) := by decide +kernel
theorem dL_nextReminder_3 : decode cL_nextReminder 3 = .ok (.iload_n 1, 1) := by decide +kernel
theorem dL_nextReminder_4 : decode cL_nextReminder 4 = .ok (.invokevirtual 66, 3) := by decide +kernel
theorem dL_nextReminder_7 : decode cL_nextReminder 7 = .ok (.i2l, 1) := by decide +kernel
theorem dL_nextReminder_8 : decode cL_nextReminder 8 = .ok (.lastore, 1) := by decide +kernel
theorem dL_nextReminder_9 : decode cL_nextReminder 9 = .ok (.goto 6, 3) := by decide +kernel
theorem dL_nextReminder_12 : decode cL_nextReminder 12 = .ok (.astore_n 3, 1) := by decide +kernel
theorem dL_nextReminder_13 : decode cL_nextReminder 13 = .ok (.iconst 1, 1) := by decide +kernel
theorem dL_nextReminder_14 : decode cL_nextReminder 14 = .ok (.ireturn, 1) := by decide +kernel
theorem dL_nextReminder_15 : decode cL_nextReminder 15 = .ok (.iconst 0, 1) := by decide +kernel
theorem dL_nextReminder_16 : decode cL_nextReminder 16 = .ok (.ireturn, 1) := by decide +kernel
theorem dL_state_0 : decode cL_state 0 = .ok (.aload_n 2, 1) := by decide +kernel
theorem dL_state_1 : decode cL_state 1 = .ok (.iconst 0, 1) := by decide +kernel
theorem dL_state_2 : decode cL_state 2 = .ok (.aload_n 0, 1) := by decide +kernel
theorem dL_state_3 : decode cL_state 3 = .ok (.iload_n 1, 1) := by decide +kernel
theorem dL_state_4 : decode cL_state 4 = .ok (.invokevirtual 69, 3) := by decide +kernel
theorem dL_state_7 : decode cL_state 7 = .ok (.i2l, 1) := by decide +kernel
theorem dL_state_8 : decode cL_state 8 = .ok (.lastore, 1) := by decide +kernel
theorem dL_state_9 : decode cL_state 9 = .ok (.goto 6, 3) := by decide +kernel
theorem dL_state_12 : decode cL_state 12 = .ok (.astore_n 3, 1) := by decide +kernel
theorem dL_state_13 : decode cL_state 13 = .ok (.iconst 1, 1) := by decide +kernel
theorem dL_state_14 : decode cL_state 14 = .ok (.ireturn, 1) := by decide +kernel
theorem dL_state_15 : decode cL_state 15 = .ok (.iconst 0, 1) := by decide +kernel
theorem dL_state_16 : decode cL_state 16 = .ok (.ireturn, 1) := by decide +kernel
theorem dL_slots_0 : decode cL_slots 0 = .ok (.aload_n 2, 1) := by decide +kernel
theorem dL_slots_1 : decode cL_slots 1 = .ok (.iconst 0, 1) := by decide +kernel
theorem dL_slots_2 : decode cL_slots 2 = .ok (.aload_n 0, 1) := by decide +kernel
theorem dL_slots_3 : decode cL_slots 3 = .ok (.iload_n 1, 1) := by decide +kernel
theorem dL_slots_4 : decode cL_slots 4 = .ok (.invokevirtual 72, 3) := by decide +kernel
theorem dL_slots_7 : decode cL_slots 7 = .ok (.i2l, 1) := by decide +kernel
theorem dL_slots_8 : decode cL_slots 8 = .ok (.lastore, 1) := by decide +kernel
theorem dL_slots_9 : decode cL_slots 9 = .ok (.goto 6, 3) := by decide +kernel
theorem dL_slots_12 : decode cL_slots 12 = .ok (.astore_n 3, 1) := by decide +kernel
theorem dL_slots_13 : decode cL_slots 13 = .ok (.iconst 1, 1) := by decide +kernel
theorem dL_slots_14 : decode cL_slots 14 = .ok (.ireturn, 1) := by decide +kernel
theorem dL_slots_15 : decode cL_slots 15 = .ok (.iconst 0, 1) := by decide +kernel
theorem dL_slots_16 : decode cL_slots 16 = .ok (.ireturn, 1) := by decide +kernel
theorem dL_slotState_0 : decode cL_slotState 0 = .ok (.aload_n 3, 1) := by decide +kernel
theorem dL_slotState_1 : decode cL_slotState 1 = .ok (.iconst 0, 1) := by decide +kernel
theorem dL_slotState_2 : decode cL_slotState 2 = .ok (.aload_n 0, 1) := by decide +kernel
theorem dL_slotState_3 : decode cL_slotState 3 = .ok (.iload_n 1, 1) := by decide +kernel
theorem dL_slotState_4 : decode cL_slotState 4 = .ok (.iload_n 2, 1) := by decide +kernel
theorem dL_slotState_5 : decode cL_slotState 5 = .ok (.invokevirtual 75, 3) := by decide +kernel
theorem dL_slotState_8 : decode cL_slotState 8 = .ok (.i2l, 1) := by decide +kernel
theorem dL_slotState_9 : decode cL_slotState 9 = .ok (.lastore, 1) := by decide +kernel
theorem dL_slotState_10 : decode cL_slotState 10 = .ok (.goto 7, 3) := by decide +kernel
theorem dL_slotState_13 : decode cL_slotState 13 = .ok (.astore 4, 2) := by decide +kernel
theorem dL_slotState_15 : decode cL_slotState 15 = .ok (.iconst 1, 1) := by decide +kernel
theorem dL_slotState_16 : decode cL_slotState 16 = .ok (.ireturn, 1) := by decide +kernel
theorem dL_slotState_17 : decode cL_slotState 17 = .ok (.iconst 0, 1) := by decide +kernel
theorem dL_slotState_18 : decode cL_slotState 18 = .ok (.ireturn, 1) := by decide +kernel
theorem dL_missing_0 : decode cL_missing 0 = .ok (.aload_n 3, 1) := by decide +kernel
theorem dL_missing_1 : decode cL_missing 1 = .ok (.iconst 0, 1) := by decide +kernel
theorem dL_missing_2 : decode cL_missing 2 = .ok (.aload_n 0, 1) := by decide +kernel
theorem dL_missing_3 : decode cL_missing 3 = .ok (.iload_n 1, 1) := by decide +kernel
theorem dL_missing_4 : decode cL_missing 4 = .ok (.iload_n 2, 1) := by decide +kernel
theorem dL_missing_5 : decode cL_missing 5 = .ok (.invokevirtual 78, 3) := by decide +kernel
theorem dL_missing_8 : decode cL_missing 8 = .ok (.i2l, 1) := by decide +kernel
theorem dL_missing_9 : decode cL_missing 9 = .ok (.lastore, 1) := by decide +kernel
theorem dL_missing_10 : decode cL_missing 10 = .ok (.goto 7, 3) := by decide +kernel
theorem dL_missing_13 : decode cL_missing 13 = .ok (.astore 4, 2) := by decide +kernel
theorem dL_missing_15 : decode cL_missing 15 = .ok (.iconst 1, 1) := by decide +kernel
theorem dL_missing_16 : decode cL_missing 16 = .ok (.ireturn, 1) := by decide +kernel
theorem dL_missing_17 : decode cL_missing 17 = .ok (.iconst 0, 1) := by decide +kernel
theorem dL_missing_18 : decode cL_missing 18 = .ok (.ireturn, 1) := by decide +kernel
theorem dL_share_0 : decode cL_share 0 = .ok (.aload_n 2, 1) := by decide +kernel
theorem dL_share_1 : decode cL_share 1 = .ok (.iconst 0, 1) := by decide +kernel
theorem dL_share_2 : decode cL_share 2 = .ok (.aload_n 0, 1) := by decide +kernel
theorem dL_share_3 : decode cL_share 3 = .ok (.iload_n 1, 1) := by decide +kernel
theorem dL_share_4 : decode cL_share 4 = .ok (.invokevirtual 81, 3) := by decide +kernel
theorem dL_share_7 : decode cL_share 7 = .ok (.f2d, 1) := by decide +kernel
theorem dL_share_8 : decode cL_share 8 = .ok (.dastore, 1) := by decide +kernel
theorem dL_share_9 : decode cL_share 9 = .ok (.goto 6, 3) := by decide +kernel
theorem dL_share_12 : decode cL_share 12 = .ok (.astore_n 3, 1) := by decide +kernel
theorem dL_share_13 : decode cL_share 13 = .ok (.iconst 1, 1) := by decide +kernel
theorem dL_share_14 : decode cL_share 14 = .ok (.ireturn, 1) := by decide +kernel
theorem dL_share_15 : decode cL_share 15 = .ok (.iconst 0, 1) := by decide +kernel
theorem dL_share_16 : decode cL_share 16 = .ok (.ireturn, 1) := by decide +kernel
theorem dL_ahead_0 : decode cL_ahead 0 = .ok (.aload_n 3, 1) := by decide +kernel
theorem dL_ahead_1 : decode cL_ahead 1 = .ok (.iconst 0, 1) := by decide +kernel
theorem dL_ahead_2 : decode cL_ahead 2 = .ok (.aload_n 0, 1) := by decide +kernel
theorem dL_ahead_3 : decode cL_ahead 3 = .ok (.iload_n 1, 1) := by decide +kernel
theorem dL_ahead_4 : decode cL_ahead 4 = .ok (.iload_n 2, 1) := by decide +kernel
theorem dL_ahead_5 : decode cL_ahead 5 = .ok (.invokevirtual 85, 3) := by decide +kernel
theorem dL_ahead_8 : decode cL_ahead 8 = .ok (.i2l, 1) := by decide +kernel
theorem dL_ahead_9 : decode cL_ahead 9 = .ok (.lastore, 1) := by decide +kernel
theorem dL_ahead_10 : decode cL_ahead 10 = .ok (.goto 7, 3) := by decide +kernel
theorem dL_ahead_13 : decode cL_ahead 13 = .ok (.astore 4, 2) := by decide +kernel
theorem dL_ahead_15 : decode cL_ahead 15 = .ok (.iconst 1, 1) := by decide +kernel
theorem dL_ahead_16 : decode cL_ahead 16 = .ok (.ireturn, 1) := by decide +kernel
theorem dL_ahead_17 : decode cL_ahead 17 = .ok (.iconst 0, 1) := by decide +kernel
theorem dL_ahead_18 : decode cL_ahead 18 = .ok (.ireturn, 1) := by decide +kernel
theorem dL_roundOf_0 : decode cL_roundOf 0 = .ok (.aload_n 3, 1) := by decide +kernel
theorem dL_roundOf_1 : decode cL_roundOf 1 = .ok (.iconst 0, 1) := by decide +kernel
theorem dL_roundOf_2 : decode cL_roundOf 2 = .ok (.aload_n 0, 1) := by decide +kernel
theorem dL_roundOf_3 : decode cL_roundOf 3 = .ok (.iload_n 1, 1) := by decide +kernel
theorem dL_roundOf_4 : decode cL_roundOf 4 = .ok (.iload_n 2, 1) := by decide +kernel
theorem dL_roundOf_5 : decode cL_roundOf 5 = .ok (.invokevirtual 88, 3) := by decide +kernel
theorem dL_roundOf_8 : decode cL_roundOf 8 = .ok (.i2l, 1) := by decide +kernel
theorem dL_roundOf_9 : decode cL_roundOf 9 = .ok (.lastore, 1) := by decide +kernel
theorem dL_roundOf_10 : decode cL_roundOf 10 = .ok (.goto 7, 3) := by decide +kernel
theorem dL_roundOf_13 : decode cL_roundOf 13 = .ok (.astore 4, 2) := by decide +kernel
theorem dL_roundOf_15 : decode cL_roundOf 15 = .ok (.iconst 1, 1) := by decide +kernel
theorem dL_roundOf_16 : decode cL_roundOf 16 = .ok (.ireturn, 1) := by decide +kernel
theorem dL_roundOf_17 : decode cL_roundOf 17 = .ok (.iconst 0, 1) := by decide +kernel
theorem dL_roundOf_18 : decode cL_roundOf 18 = .ok (.ireturn, 1) := by decide +kernel
theorem dL_orders_0 : decode cL_orders 0 = .ok (.aload_n 2, 1) := by decide +kernel
theorem dL_orders_1 : decode cL_orders 1 = .ok (.iconst 0, 1) := by decide +kernel
theorem dL_orders_2 : decode cL_orders 2 = .ok (.aload_n 0, 1) := by decide +kernel
theorem dL_orders_3 : decode cL_orders 3 = .ok (.iload_n 1, 1) := by decide +kernel
theorem dL_orders_4 : decode cL_orders 4 = .ok (.invokevirtual 91, 3) := by decide +kernel
theorem dL_orders_7 : decode cL_orders 7 = .ok (.i2l, 1) := by decide +kernel
theorem dL_orders_8 : decode cL_orders 8 = .ok (.lastore, 1) := by decide +kernel
theorem dL_orders_9 : decode cL_orders 9 = .ok (.goto 6, 3) := by decide +kernel
theorem dL_orders_12 : decode cL_orders 12 = .ok (.astore_n 3, 1) := by decide +kernel
theorem dL_orders_13 : decode cL_orders 13 = .ok (.iconst 1, 1) := by decide +kernel
theorem dL_orders_14 : decode cL_orders 14 = .ok (.ireturn, 1) := by decide +kernel
theorem dL_orders_15 : decode cL_orders 15 = .ok (.iconst 0, 1) := by decide +kernel
theorem dL_orders_16 : decode cL_orders 16 = .ok (.ireturn, 1) := by decide +kernel
theorem dL_ordersByAll_0 : decode cL_ordersByAll 0 = .ok (.aload_n 2, 1) := by decide +kernel
theorem dL_ordersByAll_1 : decode cL_ordersByAll 1 = .ok (.iconst 0, 1) := by decide +kernel
theorem dL_ordersByAll_2 : decode cL_ordersByAll 2 = .ok (.aload_n 0, 1) := by decide +kernel
theorem dL_ordersByAll_3 : decode cL_ordersByAll 3 = .ok (.iload_n 1, 1) := by decide +kernel
theorem dL_ordersByAll_4 : decode cL_ordersByAll 4 = .ok (.invokevirtual 94, 3) := by decide +kernel
theorem dL_ordersByAll_7 : decode cL_ordersByAll 7 = .ok (.i2l, 1) := by decide +kernel
theorem dL_ordersByAll_8 : decode cL_ordersByAll 8 = .ok (.lastore, 1) := by decide +kernel
theorem dL_ordersByAll_9 : decode cL_ordersByAll 9 = .ok (.goto 6, 3) := by decide +kernel
theorem dL_ordersByAll_12 : decode cL_ordersByAll 12 = .ok (.astore_n 3, 1) := by decide +kernel
theorem dL_ordersByAll_13 : decode cL_ordersByAll 13 = .ok (.iconst 1, 1) := by decide +kernel
theorem dL_ordersByAll_14 : decode cL_ordersByAll 14 = .ok (.ireturn, 1) := by decide +kernel
theorem dL_ordersByAll_15 : decode cL_ordersByAll 15 = .ok (.iconst 0, 1) := by decide +kernel
theorem dL_ordersByAll_16 : decode cL_ordersByAll 16 = .ok (.ireturn, 1) := by decide +kernel
theorem dL_ordersLeft_0 : decode cL_ordersLeft 0 = .ok (.aload_n 2, 1) := by decide +kernel
theorem dL_ordersLeft_1 : decode cL_ordersLeft 1 = .ok (.iconst 0, 1) := by decide +kernel
theorem dL_ordersLeft_2 : decode cL_ordersLeft 2 = .ok (.aload_n 0, 1) := by decide +kernel
theorem dL_ordersLeft_3 : decode cL_ordersLeft 3 = .ok (.iload_n 1, 1) := by decide +kernel
theorem dL_ordersLeft_4 : decode cL_ordersLeft 4 = .ok (.invokevirtual 97, 3) := by decide +kernel
theorem dL_ordersLeft_7 : decode cL_ordersLeft 7 = .ok (.i2l, 1) := by decide +kernel
theorem dL_ordersLeft_8 : decode cL_ordersLeft 8 = .ok (.lastore, 1) := by decide +kernel
theorem dL_ordersLeft_9 : decode cL_ordersLeft 9 = .ok (.goto 6, 3) := by decide +kernel
theorem dL_ordersLeft_12 : decode cL_ordersLeft 12 = .ok (.astore_n 3, 1) := by decide +kernel
theorem dL_ordersLeft_13 : decode cL_ordersLeft 13 = .ok (.iconst 1, 1) := by decide +kernel
theorem dL_ordersLeft_14 : decode cL_ordersLeft 14 = .ok (.ireturn, 1) := by decide +kernel
theorem dL_ordersLeft_15 : decode cL_ordersLeft 15 = .ok (.iconst 0, 1) := by decide +kernel
theorem dL_ordersLeft_16 : decode cL_ordersLeft 16 = .ok (.ireturn, 1) := by decide +kernel
theorem dL_events_0 : decode cL_events 0 = .ok (.aload_n 2, 1) := by decide +kernel
theorem dL_events_1 : decode cL_events 1 = .ok (.iconst 0, 1) := by decide +kernel
theorem dL_events_2 : decode cL_events 2 = .ok (.aload_n 0, 1) := by decide +kernel
theorem dL_events_3 : decode cL_events 3 = .ok (.iload_n 1, 1) := by decide +kernel
theorem dL_events_4 : decode cL_events 4 = .ok (.invokevirtual 100, 3) := by decide +kernel
theorem dL_events_7 : decode cL_events 7 = .ok (.i2l, 1) := by decide +kernel
theorem dL_events_8 : decode cL_events 8 = .ok (.lastore, 1) := by decide +kernel
theorem dL_events_9 : decode cL_events 9 = .ok (.goto 6, 3) := by decide +kernel
theorem dL_events_12 : decode cL_events 12 = .ok (.astore_n 3, 1) := by decide +kernel
theorem dL_events_13 : decode cL_events 13 = .ok (.iconst 1, 1) := by decide +kernel
theorem dL_events_14 : decode cL_events 14 = .ok (.ireturn, 1) := by decide +kernel
theorem dL_events_15 : decode cL_events 15 = .ok (.iconst 0, 1) := by decide +kernel
theorem dL_events_16 : decode cL_events 16 = .ok (.ireturn, 1) := by decide +kernel
theorem dL_kindOf_0 : decode cL_kindOf 0 = .ok (.aload_n 3, 1) := by decide +kernel
theorem dL_kindOf_1 : decode cL_kindOf 1 = .ok (.iconst 0, 1) := by decide +kernel
theorem dL_kindOf_2 : decode cL_kindOf 2 = .ok (.aload_n 0, 1) := by decide +kernel
theorem dL_kindOf_3 : decode cL_kindOf 3 = .ok (.iload_n 1, 1) := by decide +kernel
theorem dL_kindOf_4 : decode cL_kindOf 4 = .ok (.iload_n 2, 1) := by decide +kernel
theorem dL_kindOf_5 : decode cL_kindOf 5 = .ok (.invokevirtual 103, 3) := by decide +kernel
theorem dL_kindOf_8 : decode cL_kindOf 8 = .ok (.i2l, 1) := by decide +kernel
theorem dL_kindOf_9 : decode cL_kindOf 9 = .ok (.lastore, 1) := by decide +kernel
theorem dL_kindOf_10 : decode cL_kindOf 10 = .ok (.goto 7, 3) := by decide +kernel
theorem dL_kindOf_13 : decode cL_kindOf 13 = .ok (.astore 4, 2) := by decide +kernel
theorem dL_kindOf_15 : decode cL_kindOf 15 = .ok (.iconst 1, 1) := by decide +kernel
theorem dL_kindOf_16 : decode cL_kindOf 16 = .ok (.ireturn, 1) := by decide +kernel
theorem dL_kindOf_17 : decode cL_kindOf 17 = .ok (.iconst 0, 1) := by decide +kernel
theorem dL_kindOf_18 : decode cL_kindOf 18 = .ok (.ireturn, 1) := by decide +kernel
theorem dL_personOf_0 : decode cL_personOf 0 = .ok (.aload_n 3, 1) := by decide +kernel
theorem dL_personOf_1 : decode cL_personOf 1 = .ok (.iconst 0, 1) := by decide +kernel
theorem dL_personOf_2 : decode cL_personOf 2 = .ok (.aload_n 0, 1) := by decide +kernel
theorem dL_personOf_3 : decode cL_personOf 3 = .ok (.iload_n 1, 1) := by decide +kernel
theorem dL_personOf_4 : decode cL_personOf 4 = .ok (.iload_n 2, 1) := by decide +kernel
theorem dL_personOf_5 : decode cL_personOf 5 = .ok (.invokevirtual 106, 3) := by decide +kernel
theorem dL_personOf_8 : decode cL_personOf 8 = .ok (.i2l, 1) := by decide +kernel
theorem dL_personOf_9 : decode cL_personOf 9 = .ok (.lastore, 1) := by decide +kernel
theorem dL_personOf_10 : decode cL_personOf 10 = .ok (.goto 7, 3) := by decide +kernel
theorem dL_personOf_13 : decode cL_personOf 13 = .ok (.astore 4, 2) := by decide +kernel
theorem dL_personOf_15 : decode cL_personOf 15 = .ok (.iconst 1, 1) := by decide +kernel
theorem dL_personOf_16 : decode cL_personOf 16 = .ok (.ireturn, 1) := by decide +kernel
theorem dL_personOf_17 : decode cL_personOf 17 = .ok (.iconst 0, 1) := by decide +kernel
theorem dL_personOf_18 : decode cL_personOf 18 = .ok (.ireturn, 1) := by decide +kernel
theorem dL_dayOf_0 : decode cL_dayOf 0 = .ok (.aload_n 3, 1) := by decide +kernel
theorem dL_dayOf_1 : decode cL_dayOf 1 = .ok (.iconst 0, 1) := by decide +kernel
theorem dL_dayOf_2 : decode cL_dayOf 2 = .ok (.aload_n 0, 1) := by decide +kernel
theorem dL_dayOf_3 : decode cL_dayOf 3 = .ok (.iload_n 1, 1) := by decide +kernel
theorem dL_dayOf_4 : decode cL_dayOf 4 = .ok (.iload_n 2, 1) := by decide +kernel
theorem dL_dayOf_5 : decode cL_dayOf 5 = .ok (.invokevirtual 109, 3) := by decide +kernel
theorem dL_dayOf_8 : decode cL_dayOf 8 = .ok (.i2l, 1) := by decide +kernel
theorem dL_dayOf_9 : decode cL_dayOf 9 = .ok (.lastore, 1) := by decide +kernel
theorem dL_dayOf_10 : decode cL_dayOf 10 = .ok (.goto 7, 3) := by decide +kernel
theorem dL_dayOf_13 : decode cL_dayOf 13 = .ok (.astore 4, 2) := by decide +kernel
theorem dL_dayOf_15 : decode cL_dayOf 15 = .ok (.iconst 1, 1) := by decide +kernel
theorem dL_dayOf_16 : decode cL_dayOf 16 = .ok (.ireturn, 1) := by decide +kernel
theorem dL_dayOf_17 : decode cL_dayOf 17 = .ok (.iconst 0, 1) := by decide +kernel
theorem dL_dayOf_18 : decode cL_dayOf 18 = .ok (.ireturn, 1) := by decide +kernel
theorem dL_seal_0 : decode cL_seal 0 = .ok (.aload_n 3, 1) := by decide +kernel
theorem dL_seal_1 : decode cL_seal 1 = .ok (.iconst 0, 1) := by decide +kernel
theorem dL_seal_2 : decode cL_seal 2 = .ok (.aload_n 0, 1) := by decide +kernel
theorem dL_seal_3 : decode cL_seal 3 = .ok (.iload_n 1, 1) := by decide +kernel
theorem dL_seal_4 : decode cL_seal 4 = .ok (.iload_n 2, 1) := by decide +kernel
theorem dL_seal_5 : decode cL_seal 5 = .ok (.invokevirtual 112, 3) := by decide +kernel
theorem dL_seal_8 : decode cL_seal 8 = .ok (.i2l, 1) := by decide +kernel
theorem dL_seal_9 : decode cL_seal 9 = .ok (.lastore, 1) := by decide +kernel
theorem dL_seal_10 : decode cL_seal 10 = .ok (.goto 7, 3) := by decide +kernel
theorem dL_seal_13 : decode cL_seal 13 = .ok (.astore 4, 2) := by decide +kernel
theorem dL_seal_15 : decode cL_seal 15 = .ok (.iconst 1, 1) := by decide +kernel
theorem dL_seal_16 : decode cL_seal 16 = .ok (.ireturn, 1) := by decide +kernel
theorem dL_seal_17 : decode cL_seal 17 = .ok (.iconst 0, 1) := by decide +kernel
theorem dL_seal_18 : decode cL_seal 18 = .ok (.ireturn, 1) := by decide +kernel
theorem dL_stateBehind_0 : decode cL_stateBehind 0 = .ok (.aload_n 3, 1) := by decide +kernel
theorem dL_stateBehind_1 : decode cL_stateBehind 1 = .ok (.iconst 0, 1) := by decide +kernel
theorem dL_stateBehind_2 : decode cL_stateBehind 2 = .ok (.aload_n 0, 1) := by decide +kernel
theorem dL_stateBehind_3 : decode cL_stateBehind 3 = .ok (.iload_n 1, 1) := by decide +kernel
theorem dL_stateBehind_4 : decode cL_stateBehind 4 = .ok (.iload_n 2, 1) := by decide +kernel
theorem dL_stateBehind_5 : decode cL_stateBehind 5 = .ok (.invokevirtual 115, 3) := by decide +kernel
theorem dL_stateBehind_8 : decode cL_stateBehind 8 = .ok (.i2l, 1) := by decide +kernel
theorem dL_stateBehind_9 : decode cL_stateBehind 9 = .ok (.lastore, 1) := by decide +kernel
theorem dL_stateBehind_10 : decode cL_stateBehind 10 = .ok (.goto 7, 3) := by decide +kernel
theorem dL_stateBehind_13 : decode cL_stateBehind 13 = .ok (.astore 4, 2) := by decide +kernel
theorem dL_stateBehind_15 : decode cL_stateBehind 15 = .ok (.iconst 1, 1) := by decide +kernel
theorem dL_stateBehind_16 : decode cL_stateBehind 16 = .ok (.ireturn, 1) := by decide +kernel
theorem dL_stateBehind_17 : decode cL_stateBehind 17 = .ok (.iconst 0, 1) := by decide +kernel
theorem dL_stateBehind_18 : decode cL_stateBehind 18 = .ok (.ireturn, 1) := by decide +kernel
theorem dL_openBehind_0 : decode cL_openBehind 0 = .ok (.aload_n 3, 1) := by decide +kernel
theorem dL_openBehind_1 : decode cL_openBehind 1 = .ok (.iconst 0, 1) := by decide +kernel
theorem dL_openBehind_2 : decode cL_openBehind 2 = .ok (.aload_n 0, 1) := by decide +kernel
theorem dL_openBehind_3 : decode cL_openBehind 3 = .ok (.iload_n 1, 1) := by decide +kernel
theorem dL_openBehind_4 : decode cL_openBehind 4 = .ok (.iload_n 2, 1) := by decide +kernel
theorem dL_openBehind_5 : decode cL_openBehind 5 = .ok (.invokevirtual 118, 3) := by decide +kernel
theorem dL_openBehind_8 : decode cL_openBehind 8 = .ok (.i2l, 1) := by decide +kernel
theorem dL_openBehind_9 : decode cL_openBehind 9 = .ok (.lastore, 1) := by decide +kernel
theorem dL_openBehind_10 : decode cL_openBehind 10 = .ok (.goto 7, 3) := by decide +kernel
theorem dL_openBehind_13 : decode cL_openBehind 13 = .ok (.astore 4, 2) := by decide +kernel
theorem dL_openBehind_15 : decode cL_openBehind 15 = .ok (.iconst 1, 1) := by decide +kernel
theorem dL_openBehind_16 : decode cL_openBehind 16 = .ok (.ireturn, 1) := by decide +kernel
theorem dL_openBehind_17 : decode cL_openBehind 17 = .ok (.iconst 0, 1) := by decide +kernel
theorem dL_openBehind_18 : decode cL_openBehind 18 = .ok (.ireturn, 1) := by decide +kernel
